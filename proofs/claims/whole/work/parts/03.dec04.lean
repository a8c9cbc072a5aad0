theorem dX12_takesData_97 : decode cX12_takesData 97 = .ok (.dup, 1) := by decide +kernel
theorem dX12_takesData_98 : decode cX12_takesData 98 = .ok (.getfield 182, 3) := by decide +kernel
theorem dX12_takesData_101 : decode cX12_takesData 101 = .ok (.iconst 1, 1) := by decide +kernel
theorem dX12_takesData_102 : decode cX12_takesData 102 = .ok (.iadd, 1) := by decide +kernel
theorem dX12_takesData_103 : decode cX12_takesData 103 = .ok (.putfield 182, 3) := by decide +kernel
theorem dX12_takesData_106 : decode cX12_takesData 106 = .ok (.aload_n 0, 1) := by decide +kernel
theorem dX12_takesData_107 : decode cX12_takesData 107 = .ok (.invokevirtual 293, 3) := by decide +kernel
theorem dX12_takesData_110 : decode cX12_takesData 110 = .ok (.return_, 1) := by decide +kernel
theorem dX12_takesOrder_0 : decode cX12_takesOrder 0 = .ok (.iconst 1, 1) := by decide +kernel
theorem dX12_takesOrder_1 : decode cX12_takesOrder 1 = .ok (.istore_n 2, 1) := by decide +kernel
theorem dX12_takesOrder_2 : decode cX12_takesOrder 2 = .ok (.iload_n 1, 1) := by decide +kernel
theorem dX12_takesOrder_3 : decode cX12_takesOrder 3 = .ok (.bipush 7, 2) := by decide +kernel
theorem dX12_takesOrder_5 : decode cX12_takesOrder 5 = .ok (.if_icmp .ne 45, 3) := by decide +kernel
theorem dX12_takesOrder_8 : decode cX12_takesOrder 8 = .ok (.aload_n 0, 1) := by decide +kernel
theorem dX12_takesOrder_9 : decode cX12_takesOrder 9 = .ok (.aload_n 0, 1) := by decide +kernel
theorem dX12_takesOrder_10 : decode cX12_takesOrder 10 = .ok (.getfield 125, 3) := by decide +kernel
theorem dX12_takesOrder_13 : decode cX12_takesOrder 13 = .ok (.iconst 1, 1) := by decide +kernel
theorem dX12_takesOrder_14 : decode cX12_takesOrder 14 = .ok (.if_icmp .eq 11, 3) := by decide +kernel
theorem dX12_takesOrder_17 : decode cX12_takesOrder 17 = .ok (.aload_n 0, 1) := by decide +kernel
theorem dX12_takesOrder_18 : decode cX12_takesOrder 18 = .ok (.getfield 125, 3) := by decide +kernel
theorem dX12_takesOrder_21 : decode cX12_takesOrder 21 = .ok (.iconst 3, 1) := by decide +kernel
theorem dX12_takesOrder_22 : decode cX12_takesOrder 22 = .ok (.if_icmp .ne 7, 3) := by decide +kernel
theorem dX12_takesOrder_25 : decode cX12_takesOrder 25 = .ok (.iconst 2, 1) := by decide +kernel
theorem dX12_takesOrder_26 : decode cX12_takesOrder 26 = .ok (.goto 7, 3) := by decide +kernel
theorem dX12_takesOrder_29 : decode cX12_takesOrder 29 = .ok (.aload_n 0, 1) := by decide +kernel
theorem dX12_takesOrder_30 : decode cX12_takesOrder 30 = .ok (.getfield 125, 3) := by decide +kernel
theorem dX12_takesOrder_33 : decode cX12_takesOrder 33 = .ok (.putfield 125, 3) := by decide +kernel
theorem dX12_takesOrder_36 : decode cX12_takesOrder 36 = .ok (.aload_n 0, 1) := by decide +kernel
theorem dX12_takesOrder_37 : decode cX12_takesOrder 37 = .ok (.bipush 11, 2) := by decide +kernel
theorem dX12_takesOrder_39 : decode cX12_takesOrder 39 = .ok (.iconst 0, 1) := by decide +kernel
theorem dX12_takesOrder_40 : decode cX12_takesOrder 40 = .ok (.iconst 0, 1) := by decide +kernel
theorem dX12_takesOrder_41 : decode cX12_takesOrder 41 = .ok (.iconst 0, 1) := by decide +kernel
theorem dX12_takesOrder_42 : decode cX12_takesOrder 42 = .ok (.iconst 0, 1) := by decide +kernel
theorem dX12_takesOrder_43 : decode cX12_takesOrder 43 = .ok (.invokevirtual 193, 3) := by decide +kernel
theorem dX12_takesOrder_46 : decode cX12_takesOrder 46 = .ok (.istore_n 2, 1) := by decide +kernel
theorem dX12_takesOrder_47 : decode cX12_takesOrder 47 = .ok (.goto 95, 3) := by decide +kernel
theorem dX12_takesOrder_50 : decode cX12_takesOrder 50 = .ok (.iload_n 1, 1) := by decide +kernel
theorem dX12_takesOrder_51 : decode cX12_takesOrder 51 = .ok (.bipush 19, 2) := by decide +kernel
theorem dX12_takesOrder_53 : decode cX12_takesOrder 53 = .ok (.if_icmp .ne 56, 3) := by decide +kernel
theorem dX12_takesOrder_56 : decode cX12_takesOrder 56 = .ok (.aload_n 0, 1) := by decide +kernel
theorem dX12_takesOrder_57 : decode cX12_takesOrder 57 = .ok (.getfield 125, 3) := by decide +kernel
theorem dX12_takesOrder_60 : decode cX12_takesOrder 60 = .ok (.iconst 2, 1) := by decide +kernel
theorem dX12_takesOrder_61 : decode cX12_takesOrder 61 = .ok (.if_icmp .ne 26, 3) := by decide +kernel
theorem dX12_takesOrder_64 : decode cX12_takesOrder 64 = .ok (.aload_n 0, 1) := by decide +kernel
theorem dX12_takesOrder_65 : decode cX12_takesOrder 65 = .ok (.iconst 3, 1) := by decide +kernel
theorem dX12_takesOrder_66 : decode cX12_takesOrder 66 = .ok (.putfield 125, 3) := by decide +kernel
theorem dX12_takesOrder_69 : decode cX12_takesOrder 69 = .ok (.aload_n 0, 1) := by decide +kernel
theorem dX12_takesOrder_70 : decode cX12_takesOrder 70 = .ok (.getfield 182, 3) := by decide +kernel
theorem dX12_takesOrder_73 : decode cX12_takesOrder 73 = .ok (.aload_n 0, 1) := by decide +kernel
theorem dX12_takesOrder_74 : decode cX12_takesOrder 74 = .ok (.getfield 197, 3) := by decide +kernel
theorem dX12_takesOrder_77 : decode cX12_takesOrder 77 = .ok (.if_icmp .le 65, 3) := by decide +kernel
theorem dX12_takesOrder_80 : decode cX12_takesOrder 80 = .ok (.aload_n 0, 1) := by decide +kernel
theorem dX12_takesOrder_81 : decode cX12_takesOrder 81 = .ok (.invokevirtual 287, 3) := by decide +kernel
theorem dX12_takesOrder_84 : decode cX12_takesOrder 84 = .ok (.goto 58, 3) := by decide +kernel
theorem dX12_takesOrder_87 : decode cX12_takesOrder 87 = .ok (.aload_n 0, 1) := by decide +kernel
theorem dX12_takesOrder_88 : decode cX12_takesOrder 88 = .ok (.getfield 125, 3) := by decide +kernel
theorem dX12_takesOrder_91 : decode cX12_takesOrder 91 = .ok (.iconst 1, 1) := by decide +kernel
theorem dX12_takesOrder_92 : decode cX12_takesOrder 92 = .ok (.if_icmp .ne 50, 3) := by decide +kernel
theorem dX12_takesOrder_95 : decode cX12_takesOrder 95 = .ok (.aload_n 0, 1) := by decide +kernel
theorem dX12_takesOrder_96 : decode cX12_takesOrder 96 = .ok (.bipush 35, 2) := by decide +kernel
theorem dX12_takesOrder_98 : decode cX12_takesOrder 98 = .ok (.iconst 0, 1) := by decide +kernel
theorem dX12_takesOrder_99 : decode cX12_takesOrder 99 = .ok (.iconst 0, 1) := by decide +kernel
theorem dX12_takesOrder_100 : decode cX12_takesOrder 100 = .ok (.iconst 0, 1) := by decide +kernel
theorem dX12_takesOrder_101 : decode cX12_takesOrder 101 = .ok (.iconst 0, 1) := by decide +kernel
theorem dX12_takesOrder_102 : decode cX12_takesOrder 102 = .ok (.invokevirtual 193, 3) := by decide +kernel
theorem dX12_takesOrder_105 : decode cX12_takesOrder 105 = .ok (.istore_n 2, 1) := by decide +kernel
theorem dX12_takesOrder_106 : decode cX12_takesOrder 106 = .ok (.goto 36, 3) := by decide +kernel
theorem dX12_takesOrder_109 : decode cX12_takesOrder 109 = .ok (.iload_n 1, 1) := by decide +kernel
theorem dX12_takesOrder_110 : decode cX12_takesOrder 110 = .ok (.bipush 67, 2) := by decide +kernel
theorem dX12_takesOrder_112 : decode cX12_takesOrder 112 = .ok (.if_icmp .ne 18, 3) := by decide +kernel
theorem dX12_takesOrder_115 : decode cX12_takesOrder 115 = .ok (.aload_n 0, 1) := by decide +kernel
theorem dX12_takesOrder_116 : decode cX12_takesOrder 116 = .ok (.sipush 131, 3) := by decide +kernel
theorem dX12_takesOrder_119 : decode cX12_takesOrder 119 = .ok (.iconst 0, 1) := by decide +kernel
theorem dX12_takesOrder_120 : decode cX12_takesOrder 120 = .ok (.iconst 0, 1) := by decide +kernel
theorem dX12_takesOrder_121 : decode cX12_takesOrder 121 = .ok (.iconst 0, 1) := by decide +kernel
theorem dX12_takesOrder_122 : decode cX12_takesOrder 122 = .ok (.iconst 0, 1) := by decide +kernel
theorem dX12_takesOrder_123 : decode cX12_takesOrder 123 = .ok (.invokevirtual 193, 3) := by decide +kernel
theorem dX12_takesOrder_126 : decode cX12_takesOrder 126 = .ok (.istore_n 2, 1) := by decide +kernel
theorem dX12_takesOrder_127 : decode cX12_takesOrder 127 = .ok (.goto 15, 3) := by decide +kernel
theorem dX12_takesOrder_130 : decode cX12_takesOrder 130 = .ok (.iload_n 1, 1) := by decide +kernel
theorem dX12_takesOrder_131 : decode cX12_takesOrder 131 = .ok (.sipush 131, 3) := by decide +kernel
theorem dX12_takesOrder_134 : decode cX12_takesOrder 134 = .ok (.if_icmp .ne 8, 3) := by decide +kernel
theorem dX12_takesOrder_137 : decode cX12_takesOrder 137 = .ok (.aload_n 0, 1) := by decide +kernel
theorem dX12_takesOrder_138 : decode cX12_takesOrder 138 = .ok (.iconst 0, 1) := by decide +kernel
theorem dX12_takesOrder_139 : decode cX12_takesOrder 139 = .ok (.putfield 258, 3) := by decide +kernel
theorem dX12_takesOrder_142 : decode cX12_takesOrder 142 = .ok (.return_, 1) := by decide +kernel
theorem dX12_at_0 : decode cX12_at 0 = .ok (.aload_n 0, 1) := by decide +kernel
theorem dX12_at_1 : decode cX12_at 1 = .ok (.getfield 99, 3) := by decide +kernel
theorem dX12_at_4 : decode cX12_at 4 = .ok (.bipush 6, 2) := by decide +kernel
theorem dX12_at_6 : decode cX12_at 6 = .ok (.iload_n 1, 1) := by decide +kernel
theorem dX12_at_7 : decode cX12_at 7 = .ok (.iadd, 1) := by decide +kernel
theorem dX12_at_8 : decode cX12_at 8 = .ok (.iaload, 1) := by decide +kernel
theorem dX12_at_9 : decode cX12_at 9 = .ok (.ireturn, 1) := by decide +kernel
theorem dX12_waits_0 : decode cX12_waits 0 = .ok (.aload_n 0, 1) := by decide +kernel
theorem dX12_waits_1 : decode cX12_waits 1 = .ok (.getfield 125, 3) := by decide +kernel
theorem dX12_waits_4 : decode cX12_waits 4 = .ok (.ifCond .ne 5, 3) := by decide +kernel
theorem dX12_waits_7 : decode cX12_waits 7 = .ok (.iconst 0, 1) := by decide +kernel
theorem dX12_waits_8 : decode cX12_waits 8 = .ok (.ireturn, 1) := by decide +kernel
theorem dX12_waits_9 : decode cX12_waits 9 = .ok (.aload_n 0, 1) := by decide +kernel
theorem dX12_waits_10 : decode cX12_waits 10 = .ok (.getfield 222, 3) := by decide +kernel
theorem dX12_waits_13 : decode cX12_waits 13 = .ok (.bipush 60, 2) := by decide +kernel
theorem dX12_waits_15 : decode cX12_waits 15 = .ok (.if_icmp .ne 11, 3) := by decide +kernel
theorem dX12_waits_18 : decode cX12_waits 18 = .ok (.aload_n 0, 1) := by decide +kernel
theorem dX12_waits_19 : decode cX12_waits 19 = .ok (.bipush 7, 2) := by decide +kernel
theorem dX12_waits_21 : decode cX12_waits 21 = .ok (.invokevirtual 175, 3) := by decide +kernel
theorem dX12_waits_24 : decode cX12_waits 24 = .ok (.iconst 0, 1) := by decide +kernel
theorem dX12_waits_25 : decode cX12_waits 25 = .ok (.ireturn, 1) := by decide +kernel
theorem dX12_waits_26 : decode cX12_waits 26 = .ok (.aload_n 0, 1) := by decide +kernel
theorem dX12_waits_27 : decode cX12_waits 27 = .ok (.getfield 90, 3) := by decide +kernel
theorem dX12_waits_30 : decode cX12_waits 30 = .ok (.aload_n 0, 1) := by decide +kernel
theorem dX12_waits_31 : decode cX12_waits 31 = .ok (.getfield 222, 3) := by decide +kernel
theorem dX12_waits_34 : decode cX12_waits 34 = .ok (.aload_n 0, 1) := by decide +kernel
theorem dX12_waits_35 : decode cX12_waits 35 = .ok (.getfield 203, 3) := by decide +kernel
theorem dX12_waits_38 : decode cX12_waits 38 = .ok (.iastore, 1) := by decide +kernel
theorem dX12_waits_39 : decode cX12_waits 39 = .ok (.iconst 0, 1) := by decide +kernel
theorem dX12_waits_40 : decode cX12_waits 40 = .ok (.istore_n 1, 1) := by decide +kernel
theorem dX12_waits_41 : decode cX12_waits 41 = .ok (.iload_n 1, 1) := by decide +kernel
theorem dX12_waits_42 : decode cX12_waits 42 = .ok (.aload_n 0, 1) := by decide +kernel
theorem dX12_waits_43 : decode cX12_waits 43 = .ok (.getfield 203, 3) := by decide +kernel
theorem dX12_waits_46 : decode cX12_waits 46 = .ok (.if_icmp .ge 30, 3) := by decide +kernel
theorem dX12_waits_49 : decode cX12_waits 49 = .ok (.aload_n 0, 1) := by decide +kernel
theorem dX12_waits_50 : decode cX12_waits 50 = .ok (.getfield 93, 3) := by decide +kernel
theorem dX12_waits_53 : decode cX12_waits 53 = .ok (.sipush 249, 3) := by decide +kernel
theorem dX12_waits_56 : decode cX12_waits 56 = .ok (.aload_n 0, 1) := by decide +kernel
theorem dX12_waits_57 : decode cX12_waits 57 = .ok (.getfield 222, 3) := by decide +kernel
theorem dX12_waits_60 : decode cX12_waits 60 = .ok (.imul, 1) := by decide +kernel
theorem dX12_waits_61 : decode cX12_waits 61 = .ok (.iload_n 1, 1) := by decide +kernel
theorem dX12_waits_62 : decode cX12_waits 62 = .ok (.iadd, 1) := by decide +kernel
theorem dX12_waits_63 : decode cX12_waits 63 = .ok (.aload_n 0, 1) := by decide +kernel
theorem dX12_waits_64 : decode cX12_waits 64 = .ok (.getfield 102, 3) := by decide +kernel
theorem dX12_waits_67 : decode cX12_waits 67 = .ok (.iload_n 1, 1) := by decide +kernel
theorem dX12_waits_68 : decode cX12_waits 68 = .ok (.iaload, 1) := by decide +kernel
theorem dX12_waits_69 : decode cX12_waits 69 = .ok (.iastore, 1) := by decide +kernel
theorem dX12_waits_70 : decode cX12_waits 70 = .ok (.iinc 1 1, 3) := by decide +kernel
theorem dX12_waits_73 : decode cX12_waits 73 = .ok (.goto (-32), 3) := by decide +kernel
theorem dX12_waits_76 : decode cX12_waits 76 = .ok (.aload_n 0, 1) := by decide +kernel
theorem dX12_waits_77 : decode cX12_waits 77 = .ok (.dup, 1) := by decide +kernel
theorem dX12_waits_78 : decode cX12_waits 78 = .ok (.getfield 222, 3) := by decide +kernel
theorem dX12_waits_81 : decode cX12_waits 81 = .ok (.iconst 1, 1) := by decide +kernel
theorem dX12_waits_82 : decode cX12_waits 82 = .ok (.iadd, 1) := by decide +kernel
theorem dX12_waits_83 : decode cX12_waits 83 = .ok (.putfield 222, 3) := by decide +kernel
theorem dX12_waits_86 : decode cX12_waits 86 = .ok (.iconst 1, 1) := by decide +kernel
theorem dX12_waits_87 : decode cX12_waits 87 = .ok (.ireturn, 1) := by decide +kernel
theorem dX12_same_0 : decode cX12_same 0 = .ok (.aload_n 0, 1) := by decide +kernel
theorem dX12_same_1 : decode cX12_same 1 = .ok (.aload_n 0, 1) := by decide +kernel
theorem dX12_same_2 : decode cX12_same 2 = .ok (.getfield 99, 3) := by decide +kernel
theorem dX12_same_5 : decode cX12_same 5 = .ok (.iconst 1, 1) := by decide +kernel
theorem dX12_same_6 : decode cX12_same 6 = .ok (.iaload, 1) := by decide +kernel
theorem dX12_same_7 : decode cX12_same 7 = .ok (.iconst 4, 1) := by decide +kernel
theorem dX12_same_8 : decode cX12_same 8 = .ok (.isub, 1) := by decide +kernel
theorem dX12_same_9 : decode cX12_same 9 = .ok (.putfield 203, 3) := by decide +kernel
theorem dX12_same_12 : decode cX12_same 12 = .ok (.iconst 0, 1) := by decide +kernel
theorem dX12_same_13 : decode cX12_same 13 = .ok (.istore_n 3, 1) := by decide +kernel
theorem dX12_same_14 : decode cX12_same 14 = .ok (.iload_n 3, 1) := by decide +kernel
theorem dX12_same_15 : decode cX12_same 15 = .ok (.aload_n 0, 1) := by decide +kernel
theorem dX12_same_16 : decode cX12_same 16 = .ok (.getfield 203, 3) := by decide +kernel
theorem dX12_same_19 : decode cX12_same 19 = .ok (.if_icmp .ge 20, 3) := by decide +kernel
theorem dX12_same_22 : decode cX12_same 22 = .ok (.aload_n 0, 1) := by decide +kernel
theorem dX12_same_23 : decode cX12_same 23 = .ok (.getfield 102, 3) := by decide +kernel
theorem dX12_same_26 : decode cX12_same 26 = .ok (.iload_n 3, 1) := by decide +kernel
theorem dX12_same_27 : decode cX12_same 27 = .ok (.aload_n 0, 1) := by decide +kernel
theorem dX12_same_28 : decode cX12_same 28 = .ok (.iload_n 3, 1) := by decide +kernel
theorem dX12_same_29 : decode cX12_same 29 = .ok (.invokevirtual 296, 3) := by decide +kernel
theorem dX12_same_32 : decode cX12_same 32 = .ok (.iastore, 1) := by decide +kernel
theorem dX12_same_33 : decode cX12_same 33 = .ok (.iinc 3 1, 3) := by decide +kernel
theorem dX12_same_36 : decode cX12_same 36 = .ok (.goto (-22), 3) := by decide +kernel
theorem dX12_same_39 : decode cX12_same 39 = .ok (.aload_n 0, 1) := by decide +kernel
theorem dX12_same_40 : decode cX12_same 40 = .ok (.getfield 102, 3) := by decide +kernel
theorem dX12_same_43 : decode cX12_same 43 = .ok (.iconst 2, 1) := by decide +kernel
theorem dX12_same_44 : decode cX12_same 44 = .ok (.iload_n 1, 1) := by decide +kernel
theorem dX12_same_45 : decode cX12_same 45 = .ok (.iload_n 2, 1) := by decide +kernel
theorem dX12_same_46 : decode cX12_same 46 = .ok (.ifCond .eq 8, 3) := by decide +kernel
theorem dX12_same_49 : decode cX12_same 49 = .ok (.bipush 64, 2) := by decide +kernel
theorem dX12_same_51 : decode cX12_same 51 = .ok (.goto 4, 3) := by decide +kernel
theorem dX12_same_54 : decode cX12_same 54 = .ok (.iconst 0, 1) := by decide +kernel
theorem dX12_same_55 : decode cX12_same 55 = .ok (.ior, 1) := by decide +kernel
theorem dX12_same_56 : decode cX12_same 56 = .ok (.aload_n 0, 1) := by decide +kernel
theorem dX12_same_57 : decode cX12_same 57 = .ok (.iconst 2, 1) := by decide +kernel
theorem dX12_same_58 : decode cX12_same 58 = .ok (.invokevirtual 296, 3) := by decide +kernel
theorem dX12_same_61 : decode cX12_same 61 = .ok (.sipush 128, 3) := by decide +kernel
theorem dX12_same_64 : decode cX12_same 64 = .ok (.iand, 1) := by decide +kernel
theorem dX12_same_65 : decode cX12_same 65 = .ok (.ior, 1) := by decide +kernel
theorem dX12_same_66 : decode cX12_same 66 = .ok (.iastore, 1) := by decide +kernel
theorem dX12_same_67 : decode cX12_same 67 = .ok (.aload_n 0, 1) := by decide +kernel
theorem dX12_same_68 : decode cX12_same 68 = .ok (.invokevirtual 299, 3) := by decide +kernel
theorem dX12_same_71 : decode cX12_same 71 = .ok (.istore_n 3, 1) := by decide +kernel
theorem dX12_same_72 : decode cX12_same 72 = .ok (.return_, 1) := by decide +kernel
theorem dX12_lengthOf_0 : decode cX12_lengthOf 0 = .ok (.iload_n 0, 1) := by decide +kernel
theorem dX12_lengthOf_1 : decode cX12_lengthOf 1 = .ok (.bipush 45, 2) := by decide +kernel
theorem dX12_lengthOf_3 : decode cX12_lengthOf 3 = .ok (.if_icmp .eq 21, 3) := by decide +kernel
theorem dX12_lengthOf_6 : decode cX12_lengthOf 6 = .ok (.iload_n 0, 1) := by decide +kernel
theorem dX12_lengthOf_7 : decode cX12_lengthOf 7 = .ok (.bipush 46, 2) := by decide +kernel
theorem dX12_lengthOf_9 : decode cX12_lengthOf 9 = .ok (.if_icmp .eq 15, 3) := by decide +kernel
theorem dX12_lengthOf_12 : decode cX12_lengthOf 12 = .ok (.iload_n 0, 1) := by decide +kernel
theorem dX12_lengthOf_13 : decode cX12_lengthOf 13 = .ok (.bipush 100, 2) := by decide +kernel
theorem dX12_lengthOf_15 : decode cX12_lengthOf 15 = .ok (.if_icmp .eq 9, 3) := by decide +kernel
theorem dX12_lengthOf_18 : decode cX12_lengthOf 18 = .ok (.iload_n 0, 1) := by decide +kernel
theorem dX12_lengthOf_19 : decode cX12_lengthOf 19 = .ok (.bipush 101, 2) := by decide +kernel
theorem dX12_lengthOf_21 : decode cX12_lengthOf 21 = .ok (.if_icmp .ne 8, 3) := by decide +kernel
theorem dX12_lengthOf_24 : decode cX12_lengthOf 24 = .ok (.bipush 10, 2) := by decide +kernel
theorem dX12_lengthOf_26 : decode cX12_lengthOf 26 = .ok (.goto 38, 3) := by decide +kernel
theorem dX12_lengthOf_29 : decode cX12_lengthOf 29 = .ok (.iload_n 0, 1) := by decide +kernel
theorem dX12_lengthOf_30 : decode cX12_lengthOf 30 = .ok (.bipush 49, 2) := by decide +kernel
theorem dX12_lengthOf_32 : decode cX12_lengthOf 32 = .ok (.if_icmp .ne 8, 3) := by decide +kernel
theorem dX12_lengthOf_35 : decode cX12_lengthOf 35 = .ok (.bipush 12, 2) := by decide +kernel
theorem dX12_lengthOf_37 : decode cX12_lengthOf 37 = .ok (.goto 27, 3) := by decide +kernel
theorem dX12_lengthOf_40 : decode cX12_lengthOf 40 = .ok (.iload_n 0, 1) := by decide +kernel
theorem dX12_lengthOf_41 : decode cX12_lengthOf 41 = .ok (.bipush 102, 2) := by decide +kernel
theorem dX12_lengthOf_43 : decode cX12_lengthOf 43 = .ok (.if_icmp .ne 8, 3) := by decide +kernel
theorem dX12_lengthOf_46 : decode cX12_lengthOf 46 = .ok (.bipush 9, 2) := by decide +kernel
theorem dX12_lengthOf_48 : decode cX12_lengthOf 48 = .ok (.goto 16, 3) := by decide +kernel
theorem dX12_lengthOf_51 : decode cX12_lengthOf 51 = .ok (.iload_n 0, 1) := by decide +kernel
theorem dX12_lengthOf_52 : decode cX12_lengthOf 52 = .ok (.bipush 103, 2) := by decide +kernel
theorem dX12_lengthOf_54 : decode cX12_lengthOf 54 = .ok (.if_icmp .ne 8, 3) := by decide +kernel
theorem dX12_lengthOf_57 : decode cX12_lengthOf 57 = .ok (.bipush 16, 2) := by decide +kernel
theorem dX12_lengthOf_59 : decode cX12_lengthOf 59 = .ok (.goto 5, 3) := by decide +kernel
theorem dX12_lengthOf_62 : decode cX12_lengthOf 62 = .ok (.bipush 11, 2) := by decide +kernel
theorem dX12_lengthOf_64 : decode cX12_lengthOf 64 = .ok (.ireturn, 1) := by decide +kernel
theorem dX12_isOrder_0 : decode cX12_isOrder 0 = .ok (.iload_n 0, 1) := by decide +kernel
theorem dX12_isOrder_1 : decode cX12_isOrder 1 = .ok (.bipush 45, 2) := by decide +kernel
theorem dX12_isOrder_3 : decode cX12_isOrder 3 = .ok (.if_icmp .eq 15, 3) := by decide +kernel
theorem dX12_isOrder_6 : decode cX12_isOrder 6 = .ok (.iload_n 0, 1) := by decide +kernel
theorem dX12_isOrder_7 : decode cX12_isOrder 7 = .ok (.bipush 46, 2) := by decide +kernel
theorem dX12_isOrder_9 : decode cX12_isOrder 9 = .ok (.if_icmp .eq 9, 3) := by decide +kernel
theorem dX12_isOrder_12 : decode cX12_isOrder 12 = .ok (.iload_n 0, 1) := by decide +kernel
theorem dX12_isOrder_13 : decode cX12_isOrder 13 = .ok (.bipush 49, 2) := by decide +kernel
theorem dX12_isOrder_15 : decode cX12_isOrder 15 = .ok (.if_icmp .ne 7, 3) := by decide +kernel
theorem dX12_isOrder_18 : decode cX12_isOrder 18 = .ok (.iconst 1, 1) := by decide +kernel
theorem dX12_isOrder_19 : decode cX12_isOrder 19 = .ok (.goto 4, 3) := by decide +kernel
theorem dX12_isOrder_22 : decode cX12_isOrder 22 = .ok (.iconst 0, 1) := by decide +kernel
theorem dX12_isOrder_23 : decode cX12_isOrder 23 = .ok (.ireturn, 1) := by decide +kernel
theorem dX12_rest_0 : decode cX12_rest 0 = .ok (.aload_n 0, 1) := by decide +kernel
theorem dX12_rest_1 : decode cX12_rest 1 = .ok (.getfield 99, 3) := by decide +kernel
theorem dX12_rest_4 : decode cX12_rest 4 = .ok (.iconst 1, 1) := by decide +kernel
theorem dX12_rest_5 : decode cX12_rest 5 = .ok (.iaload, 1) := by decide +kernel
theorem dX12_rest_6 : decode cX12_rest 6 = .ok (.iconst 4, 1) := by decide +kernel
theorem dX12_rest_7 : decode cX12_rest 7 = .ok (.isub, 1) := by decide +kernel
theorem dX12_rest_8 : decode cX12_rest 8 = .ok (.istore_n 1, 1) := by decide +kernel
theorem dX12_rest_9 : decode cX12_rest 9 = .ok (.iload_n 1, 1) := by decide +kernel
theorem dX12_rest_10 : decode cX12_rest 10 = .ok (.bipush 9, 2) := by decide +kernel
theorem dX12_rest_12 : decode cX12_rest 12 = .ok (.if_icmp .ge 14, 3) := by decide +kernel
theorem dX12_rest_15 : decode cX12_rest 15 = .ok (.aload_n 0, 1) := by decide +kernel
theorem dX12_rest_16 : decode cX12_rest 16 = .ok (.dup, 1) := by decide +kernel
theorem dX12_rest_17 : decode cX12_rest 17 = .ok (.getfield 302, 3) := by decide +kernel
theorem dX12_rest_20 : decode cX12_rest 20 = .ok (.iconst 1, 1) := by decide +kernel
theorem dX12_rest_21 : decode cX12_rest 21 = .ok (.iadd, 1) := by decide +kernel
theorem dX12_rest_22 : decode cX12_rest 22 = .ok (.putfield 302, 3) := by decide +kernel
theorem dX12_rest_25 : decode cX12_rest 25 = .ok (.return_, 1) := by decide +kernel
theorem dX12_rest_26 : decode cX12_rest 26 = .ok (.aload_n 0, 1) := by decide +kernel
theorem dX12_rest_27 : decode cX12_rest 27 = .ok (.iconst 0, 1) := by decide +kernel
theorem dX12_rest_28 : decode cX12_rest 28 = .ok (.invokevirtual 296, 3) := by decide +kernel
theorem dX12_rest_31 : decode cX12_rest 31 = .ok (.istore_n 2, 1) := by decide +kernel
theorem dX12_rest_32 : decode cX12_rest 32 = .ok (.aload_n 0, 1) := by decide +kernel
theorem dX12_rest_33 : decode cX12_rest 33 = .ok (.iconst 2, 1) := by decide +kernel
theorem dX12_rest_34 : decode cX12_rest 34 = .ok (.invokevirtual 296, 3) := by decide +kernel
theorem dX12_rest_37 : decode cX12_rest 37 = .ok (.bipush 63, 2) := by decide +kernel
theorem dX12_rest_39 : decode cX12_rest 39 = .ok (.iand, 1) := by decide +kernel
theorem dX12_rest_40 : decode cX12_rest 40 = .ok (.istore_n 3, 1) := by decide +kernel
theorem dX12_rest_41 : decode cX12_rest 41 = .ok (.aload_n 0, 1) := by decide +kernel
theorem dX12_rest_42 : decode cX12_rest 42 = .ok (.iconst 4, 1) := by decide +kernel
theorem dX12_rest_43 : decode cX12_rest 43 = .ok (.invokevirtual 296, 3) := by decide +kernel
theorem dX12_rest_46 : decode cX12_rest 46 = .ok (.sipush 256, 3) := by decide +kernel
theorem dX12_rest_49 : decode cX12_rest 49 = .ok (.aload_n 0, 1) := by decide +kernel
theorem dX12_rest_50 : decode cX12_rest 50 = .ok (.iconst 5, 1) := by decide +kernel
theorem dX12_rest_51 : decode cX12_rest 51 = .ok (.invokevirtual 296, 3) := by decide +kernel
theorem dX12_rest_54 : decode cX12_rest 54 = .ok (.imul, 1) := by decide +kernel
theorem dX12_rest_55 : decode cX12_rest 55 = .ok (.iadd, 1) := by decide +kernel
theorem dX12_rest_56 : decode cX12_rest 56 = .ok (.istore 4, 2) := by decide +kernel
theorem dX12_rest_58 : decode cX12_rest 58 = .ok (.aload_n 0, 1) := by decide +kernel
theorem dX12_rest_59 : decode cX12_rest 59 = .ok (.bipush 6, 2) := by decide +kernel
theorem dX12_rest_61 : decode cX12_rest 61 = .ok (.invokevirtual 296, 3) := by decide +kernel
theorem dX12_rest_64 : decode cX12_rest 64 = .ok (.sipush 256, 3) := by decide +kernel
theorem dX12_rest_67 : decode cX12_rest 67 = .ok (.aload_n 0, 1) := by decide +kernel
theorem dX12_rest_68 : decode cX12_rest 68 = .ok (.bipush 7, 2) := by decide +kernel
theorem dX12_rest_70 : decode cX12_rest 70 = .ok (.invokevirtual 296, 3) := by decide +kernel
theorem dX12_rest_73 : decode cX12_rest 73 = .ok (.imul, 1) := by decide +kernel
theorem dX12_rest_74 : decode cX12_rest 74 = .ok (.iadd, 1) := by decide +kernel
theorem dX12_rest_75 : decode cX12_rest 75 = .ok (.ldc_w 305, 3) := by decide +kernel
theorem dX12_rest_78 : decode cX12_rest 78 = .ok (.aload_n 0, 1) := by decide +kernel
theorem dX12_rest_79 : decode cX12_rest 79 = .ok (.bipush 8, 2) := by decide +kernel
theorem dX12_rest_81 : decode cX12_rest 81 = .ok (.invokevirtual 296, 3) := by decide +kernel
theorem dX12_rest_84 : decode cX12_rest 84 = .ok (.imul, 1) := by decide +kernel
theorem dX12_rest_85 : decode cX12_rest 85 = .ok (.iadd, 1) := by decide +kernel
theorem dX12_rest_86 : decode cX12_rest 86 = .ok (.istore 5, 2) := by decide +kernel
theorem dX12_rest_88 : decode cX12_rest 88 = .ok (.iload_n 2, 1) := by decide +kernel
theorem dX12_rest_89 : decode cX12_rest 89 = .ok (.bipush 102, 2) := by decide +kernel
theorem dX12_rest_91 : decode cX12_rest 91 = .ok (.if_icmp .ne 16, 3) := by decide +kernel
theorem dX12_rest_94 : decode cX12_rest 94 = .ok (.iload_n 3, 1) := by decide +kernel
theorem dX12_rest_95 : decode cX12_rest 95 = .ok (.iconst 5, 1) := by decide +kernel
theorem dX12_rest_96 : decode cX12_rest 96 = .ok (.if_icmp .ne 7, 3) := by decide +kernel
theorem dX12_rest_99 : decode cX12_rest 99 = .ok (.iconst 1, 1) := by decide +kernel
theorem dX12_rest_100 : decode cX12_rest 100 = .ok (.goto 37, 3) := by decide +kernel
theorem dX12_rest_103 : decode cX12_rest 103 = .ok (.iconst 0, 1) := by decide +kernel
theorem dX12_rest_104 : decode cX12_rest 104 = .ok (.goto 33, 3) := by decide +kernel
theorem dX12_rest_107 : decode cX12_rest 107 = .ok (.iload_n 3, 1) := by decide +kernel
theorem dX12_rest_108 : decode cX12_rest 108 = .ok (.bipush 6, 2) := by decide +kernel
theorem dX12_rest_110 : decode cX12_rest 110 = .ok (.if_icmp .eq 22, 3) := by decide +kernel
theorem dX12_rest_113 : decode cX12_rest 113 = .ok (.iload_n 3, 1) := by decide +kernel
theorem dX12_rest_114 : decode cX12_rest 114 = .ok (.bipush 8, 2) := by decide +kernel
theorem dX12_rest_116 : decode cX12_rest 116 = .ok (.if_icmp .ne 20, 3) := by decide +kernel
theorem dX12_rest_119 : decode cX12_rest 119 = .ok (.iload_n 2, 1) := by decide +kernel
theorem dX12_rest_120 : decode cX12_rest 120 = .ok (.invokestatic 306, 3) := by decide +kernel
theorem dX12_rest_123 : decode cX12_rest 123 = .ok (.ifCond .ne 9, 3) := by decide +kernel
theorem dX12_rest_126 : decode cX12_rest 126 = .ok (.iload_n 2, 1) := by decide +kernel
theorem dX12_rest_127 : decode cX12_rest 127 = .ok (.bipush 100, 2) := by decide +kernel
theorem dX12_rest_129 : decode cX12_rest 129 = .ok (.if_icmp .ne 7, 3) := by decide +kernel
theorem dX12_rest_132 : decode cX12_rest 132 = .ok (.iconst 1, 1) := by decide +kernel
theorem dX12_rest_133 : decode cX12_rest 133 = .ok (.goto 4, 3) := by decide +kernel
theorem dX12_rest_136 : decode cX12_rest 136 = .ok (.iconst 0, 1) := by decide +kernel
theorem dX12_rest_137 : decode cX12_rest 137 = .ok (.istore 6, 2) := by decide +kernel
theorem dX12_rest_139 : decode cX12_rest 139 = .ok (.iload_n 2, 1) := by decide +kernel
theorem dX12_rest_140 : decode cX12_rest 140 = .ok (.invokestatic 306, 3) := by decide +kernel
theorem dX12_rest_143 : decode cX12_rest 143 = .ok (.ifCond .ne 27, 3) := by decide +kernel
theorem dX12_rest_146 : decode cX12_rest 146 = .ok (.iload_n 2, 1) := by decide +kernel
theorem dX12_rest_147 : decode cX12_rest 147 = .ok (.i2l, 1) := by decide +kernel
theorem dX12_rest_148 : decode cX12_rest 148 = .ok (.ldc2_w 309, 3) := by decide +kernel
theorem dX12_rest_151 : decode cX12_rest 151 = .ok (.ldc2_w 311, 3) := by decide +kernel
theorem dX12_rest_154 : decode cX12_rest 154 = .ok (.invokestatic 111, 3) := by decide +kernel
theorem dX12_rest_157 : decode cX12_rest 157 = .ok (.ifCond .ne 13, 3) := by decide +kernel
theorem dX12_rest_160 : decode cX12_rest 160 = .ok (.aload_n 0, 1) := by decide +kernel
theorem dX12_rest_161 : decode cX12_rest 161 = .ok (.bipush 44, 2) := by decide +kernel
theorem dX12_rest_163 : decode cX12_rest 163 = .ok (.iconst 1, 1) := by decide +kernel
theorem dX12_rest_164 : decode cX12_rest 164 = .ok (.invokevirtual 313, 3) := by decide +kernel
theorem dX12_rest_167 : decode cX12_rest 167 = .ok (.goto 138, 3) := by decide +kernel
theorem dX12_rest_170 : decode cX12_rest 170 = .ok (.iload 6, 2) := by decide +kernel
theorem dX12_rest_172 : decode cX12_rest 172 = .ok (.ifCond .ne 13, 3) := by decide +kernel
theorem dX12_rest_175 : decode cX12_rest 175 = .ok (.aload_n 0, 1) := by decide +kernel
theorem dX12_rest_176 : decode cX12_rest 176 = .ok (.bipush 45, 2) := by decide +kernel
theorem dX12_rest_178 : decode cX12_rest 178 = .ok (.iconst 1, 1) := by decide +kernel
theorem dX12_rest_179 : decode cX12_rest 179 = .ok (.invokevirtual 313, 3) := by decide +kernel
theorem dX12_rest_182 : decode cX12_rest 182 = .ok (.goto 123, 3) := by decide +kernel
theorem dX12_rest_185 : decode cX12_rest 185 = .ok (.iload 4, 2) := by decide +kernel
theorem dX12_rest_187 : decode cX12_rest 187 = .ok (.aload_n 0, 1) := by decide +kernel
theorem dX12_rest_188 : decode cX12_rest 188 = .ok (.getfield 7, 3) := by decide +kernel
theorem dX12_rest_191 : decode cX12_rest 191 = .ok (.iconst 0, 1) := by decide +kernel
theorem dX12_rest_192 : decode cX12_rest 192 = .ok (.iaload, 1) := by decide +kernel
theorem dX12_rest_193 : decode cX12_rest 193 = .ok (.if_icmp .eq 28, 3) := by decide +kernel
theorem dX12_rest_196 : decode cX12_rest 196 = .ok (.iload_n 2, 1) := by decide +kernel
theorem dX12_rest_197 : decode cX12_rest 197 = .ok (.invokestatic 306, 3) := by decide +kernel
theorem dX12_rest_200 : decode cX12_rest 200 = .ok (.ifCond .ne 11, 3) := by decide +kernel
theorem dX12_rest_203 : decode cX12_rest 203 = .ok (.iload 4, 2) := by decide +kernel
theorem dX12_rest_205 : decode cX12_rest 205 = .ok (.ldc_w 317, 3) := by decide +kernel
theorem dX12_rest_208 : decode cX12_rest 208 = .ok (.if_icmp .eq 13, 3) := by decide +kernel
theorem dX12_rest_211 : decode cX12_rest 211 = .ok (.aload_n 0, 1) := by decide +kernel
theorem dX12_rest_212 : decode cX12_rest 212 = .ok (.bipush 46, 2) := by decide +kernel
theorem dX12_rest_214 : decode cX12_rest 214 = .ok (.iconst 1, 1) := by decide +kernel
theorem dX12_rest_215 : decode cX12_rest 215 = .ok (.invokevirtual 313, 3) := by decide +kernel
theorem dX12_rest_218 : decode cX12_rest 218 = .ok (.goto 87, 3) := by decide +kernel
theorem dX12_rest_221 : decode cX12_rest 221 = .ok (.iload_n 1, 1) := by decide +kernel
theorem dX12_rest_222 : decode cX12_rest 222 = .ok (.iload_n 2, 1) := by decide +kernel
theorem dX12_rest_223 : decode cX12_rest 223 = .ok (.invokestatic 318, 3) := by decide +kernel
theorem dX12_rest_226 : decode cX12_rest 226 = .ok (.if_icmp .ne 12, 3) := by decide +kernel
theorem dX12_rest_229 : decode cX12_rest 229 = .ok (.aload_n 0, 1) := by decide +kernel
theorem dX12_rest_230 : decode cX12_rest 230 = .ok (.iconst 1, 1) := by decide +kernel
theorem dX12_rest_231 : decode cX12_rest 231 = .ok (.invokevirtual 296, 3) := by decide +kernel
theorem dX12_rest_234 : decode cX12_rest 234 = .ok (.iconst 1, 1) := by decide +kernel
theorem dX12_rest_235 : decode cX12_rest 235 = .ok (.if_icmp .eq 16, 3) := by decide +kernel
theorem dX12_rest_238 : decode cX12_rest 238 = .ok (.aload_n 0, 1) := by decide +kernel
theorem dX12_rest_239 : decode cX12_rest 239 = .ok (.dup, 1) := by decide +kernel
theorem dX12_rest_240 : decode cX12_rest 240 = .ok (.getfield 302, 3) := by decide +kernel
theorem dX12_rest_243 : decode cX12_rest 243 = .ok (.iconst 1, 1) := by decide +kernel
theorem dX12_rest_244 : decode cX12_rest 244 = .ok (.iadd, 1) := by decide +kernel
theorem dX12_rest_245 : decode cX12_rest 245 = .ok (.putfield 302, 3) := by decide +kernel
theorem dX12_rest_248 : decode cX12_rest 248 = .ok (.goto 57, 3) := by decide +kernel
theorem dX12_rest_251 : decode cX12_rest 251 = .ok (.iload_n 2, 1) := by decide +kernel
theorem dX12_rest_252 : decode cX12_rest 252 = .ok (.invokestatic 306, 3) := by decide +kernel
theorem dX12_rest_255 : decode cX12_rest 255 = .ok (.ifCond .eq 14, 3) := by decide +kernel
theorem dX12_rest_258 : decode cX12_rest 258 = .ok (.aload_n 0, 1) := by decide +kernel
theorem dX12_rest_259 : decode cX12_rest 259 = .ok (.iload_n 2, 1) := by decide +kernel
theorem dX12_rest_260 : decode cX12_rest 260 = .ok (.iload_n 3, 1) := by decide +kernel
theorem dX12_rest_261 : decode cX12_rest 261 = .ok (.iload 5, 2) := by decide +kernel
theorem dX12_rest_263 : decode cX12_rest 263 = .ok (.invokevirtual 321, 3) := by decide +kernel
theorem dX12_rest_266 : decode cX12_rest 266 = .ok (.goto 39, 3) := by decide +kernel
theorem dX12_rest_269 : decode cX12_rest 269 = .ok (.iload_n 2, 1) := by decide +kernel
theorem dX12_rest_270 : decode cX12_rest 270 = .ok (.bipush 102, 2) := by decide +kernel
theorem dX12_rest_272 : decode cX12_rest 272 = .ok (.if_icmp .ne 12, 3) := by decide +kernel
theorem dX12_rest_275 : decode cX12_rest 275 = .ok (.aload_n 0, 1) := by decide +kernel
theorem dX12_rest_276 : decode cX12_rest 276 = .ok (.iload 5, 2) := by decide +kernel
theorem dX12_rest_278 : decode cX12_rest 278 = .ok (.invokevirtual 324, 3) := by decide +kernel
theorem dX12_rest_281 : decode cX12_rest 281 = .ok (.goto 24, 3) := by decide +kernel
theorem dX12_rest_284 : decode cX12_rest 284 = .ok (.iload 5, 2) := by decide +kernel
theorem dX12_rest_286 : decode cX12_rest 286 = .ok (.ifCond .eq 13, 3) := by decide +kernel
theorem dX12_rest_289 : decode cX12_rest 289 = .ok (.aload_n 0, 1) := by decide +kernel
theorem dX12_rest_290 : decode cX12_rest 290 = .ok (.bipush 47, 2) := by decide +kernel
theorem dX12_rest_292 : decode cX12_rest 292 = .ok (.iconst 1, 1) := by decide +kernel
theorem dX12_rest_293 : decode cX12_rest 293 = .ok (.invokevirtual 313, 3) := by decide +kernel
theorem dX12_rest_296 : decode cX12_rest 296 = .ok (.goto 9, 3) := by decide +kernel
theorem dX12_rest_299 : decode cX12_rest 299 = .ok (.aload_n 0, 1) := by decide +kernel
theorem dX12_rest_300 : decode cX12_rest 300 = .ok (.iload_n 2, 1) := by decide +kernel
theorem dX12_rest_301 : decode cX12_rest 301 = .ok (.iload_n 3, 1) := by decide +kernel
theorem dX12_rest_302 : decode cX12_rest 302 = .ok (.invokevirtual 327, 3) := by decide +kernel
theorem dX12_rest_305 : decode cX12_rest 305 = .ok (.return_, 1) := by decide +kernel
theorem dX12_isTest_0 : decode cX12_isTest 0 = .ok (.aload_n 0, 1) := by decide +kernel
theorem dX12_isTest_1 : decode cX12_isTest 1 = .ok (.iconst 2, 1) := by decide +kernel
theorem dX12_isTest_2 : decode cX12_isTest 2 = .ok (.invokevirtual 296, 3) := by decide +kernel
theorem dX12_isTest_5 : decode cX12_isTest 5 = .ok (.sipush 128, 3) := by decide +kernel
theorem dX12_isTest_8 : decode cX12_isTest 8 = .ok (.iand, 1) := by decide +kernel
theorem dX12_isTest_9 : decode cX12_isTest 9 = .ok (.ifCond .eq 7, 3) := by decide +kernel
theorem dX12_isTest_12 : decode cX12_isTest 12 = .ok (.iconst 1, 1) := by decide +kernel
theorem dX12_isTest_13 : decode cX12_isTest 13 = .ok (.goto 4, 3) := by decide +kernel
theorem dX12_isTest_16 : decode cX12_isTest 16 = .ok (.iconst 0, 1) := by decide +kernel
theorem dX12_isTest_17 : decode cX12_isTest 17 = .ok (.ireturn, 1) := by decide +kernel
theorem dX12_commanded_0 : decode cX12_commanded 0 = .ok (.iconst 0, 1) := by decide +kernel
theorem dX12_commanded_1 : decode cX12_commanded 1 = .ok (.istore 4, 2) := by decide +kernel
theorem dX12_commanded_3 : decode cX12_commanded 3 = .ok (.iload_n 1, 1) := by decide +kernel
theorem dX12_commanded_4 : decode cX12_commanded 4 = .ok (.bipush 45, 2) := by decide +kernel
theorem dX12_commanded_6 : decode cX12_commanded 6 = .ok (.if_icmp .ne 7, 3) := by decide +kernel
theorem dX12_commanded_9 : decode cX12_commanded 9 = .ok (.iconst 0, 1) := by decide +kernel
theorem dX12_commanded_10 : decode cX12_commanded 10 = .ok (.goto 14, 3) := by decide +kernel
theorem dX12_commanded_13 : decode cX12_commanded 13 = .ok (.iload_n 1, 1) := by decide +kernel
theorem dX12_commanded_14 : decode cX12_commanded 14 = .ok (.bipush 46, 2) := by decide +kernel
theorem dX12_commanded_16 : decode cX12_commanded 16 = .ok (.if_icmp .ne 7, 3) := by decide +kernel
theorem dX12_commanded_19 : decode cX12_commanded 19 = .ok (.iconst 1, 1) := by decide +kernel
theorem dX12_commanded_20 : decode cX12_commanded 20 = .ok (.goto 4, 3) := by decide +kernel
theorem dX12_commanded_23 : decode cX12_commanded 23 = .ok (.iconst 2, 1) := by decide +kernel
theorem dX12_commanded_24 : decode cX12_commanded 24 = .ok (.istore 5, 2) := by decide +kernel
theorem dX12_commanded_26 : decode cX12_commanded 26 = .ok (.iload 4, 2) := by decide +kernel
theorem dX12_commanded_28 : decode cX12_commanded 28 = .ok (.aload_n 0, 1) := by decide +kernel
theorem dX12_commanded_29 : decode cX12_commanded 29 = .ok (.getfield 130, 3) := by decide +kernel
theorem dX12_commanded_32 : decode cX12_commanded 32 = .ok (.if_icmp .ge 32, 3) := by decide +kernel
theorem dX12_commanded_35 : decode cX12_commanded 35 = .ok (.aload_n 0, 1) := by decide +kernel
theorem dX12_commanded_36 : decode cX12_commanded 36 = .ok (.getfield 38, 3) := by decide +kernel
theorem dX12_commanded_39 : decode cX12_commanded 39 = .ok (.iload 4, 2) := by decide +kernel
theorem dX12_commanded_41 : decode cX12_commanded 41 = .ok (.iaload, 1) := by decide +kernel
theorem dX12_commanded_42 : decode cX12_commanded 42 = .ok (.iload_n 3, 1) := by decide +kernel
theorem dX12_commanded_43 : decode cX12_commanded 43 = .ok (.if_icmp .ne 15, 3) := by decide +kernel
theorem dX12_commanded_46 : decode cX12_commanded 46 = .ok (.aload_n 0, 1) := by decide +kernel
theorem dX12_commanded_47 : decode cX12_commanded 47 = .ok (.getfield 35, 3) := by decide +kernel
theorem dX12_commanded_50 : decode cX12_commanded 50 = .ok (.iload 4, 2) := by decide +kernel
theorem dX12_commanded_52 : decode cX12_commanded 52 = .ok (.iaload, 1) := by decide +kernel
theorem dX12_commanded_53 : decode cX12_commanded 53 = .ok (.iload 5, 2) := by decide +kernel
theorem dX12_commanded_55 : decode cX12_commanded 55 = .ok (.if_icmp .eq 9, 3) := by decide +kernel
theorem dX12_commanded_58 : decode cX12_commanded 58 = .ok (.iinc 4 1, 3) := by decide +kernel
theorem dX12_commanded_61 : decode cX12_commanded 61 = .ok (.goto (-35), 3) := by decide +kernel
theorem dX12_commanded_64 : decode cX12_commanded 64 = .ok (.iload 4, 2) := by decide +kernel
theorem dX12_commanded_66 : decode cX12_commanded 66 = .ok (.aload_n 0, 1) := by decide +kernel
theorem dX12_commanded_67 : decode cX12_commanded 67 = .ok (.getfield 130, 3) := by decide +kernel
theorem dX12_commanded_70 : decode cX12_commanded 70 = .ok (.if_icmp .ne 11, 3) := by decide +kernel
theorem dX12_commanded_73 : decode cX12_commanded 73 = .ok (.aload_n 0, 1) := by decide +kernel
theorem dX12_commanded_74 : decode cX12_commanded 74 = .ok (.bipush 47, 2) := by decide +kernel
theorem dX12_commanded_76 : decode cX12_commanded 76 = .ok (.iconst 1, 1) := by decide +kernel
theorem dX12_commanded_77 : decode cX12_commanded 77 = .ok (.invokevirtual 313, 3) := by decide +kernel
theorem dX12_commanded_80 : decode cX12_commanded 80 = .ok (.return_, 1) := by decide +kernel
theorem dX12_commanded_81 : decode cX12_commanded 81 = .ok (.iload_n 2, 1) := by decide +kernel
theorem dX12_commanded_82 : decode cX12_commanded 82 = .ok (.bipush 8, 2) := by decide +kernel
theorem dX12_commanded_84 : decode cX12_commanded 84 = .ok (.if_icmp .ne 52, 3) := by decide +kernel
theorem dX12_commanded_87 : decode cX12_commanded 87 = .ok (.aload_n 0, 1) := by decide +kernel
theorem dX12_commanded_88 : decode cX12_commanded 88 = .ok (.bipush 9, 2) := by decide +kernel
theorem dX12_commanded_90 : decode cX12_commanded 90 = .ok (.aload_n 0, 1) := by decide +kernel
theorem dX12_commanded_91 : decode cX12_commanded 91 = .ok (.getfield 50, 3) := by decide +kernel
theorem dX12_commanded_94 : decode cX12_commanded 94 = .ok (.iload 4, 2) := by decide +kernel
theorem dX12_commanded_96 : decode cX12_commanded 96 = .ok (.if_icmp .eq 7, 3) := by decide +kernel
theorem dX12_commanded_99 : decode cX12_commanded 99 = .ok (.iconst 1, 1) := by decide +kernel
theorem dX12_commanded_100 : decode cX12_commanded 100 = .ok (.goto 4, 3) := by decide +kernel
theorem dX12_commanded_103 : decode cX12_commanded 103 = .ok (.iconst 0, 1) := by decide +kernel
theorem dX12_commanded_104 : decode cX12_commanded 104 = .ok (.invokevirtual 313, 3) := by decide +kernel
theorem dX12_commanded_107 : decode cX12_commanded 107 = .ok (.aload_n 0, 1) := by decide +kernel
theorem dX12_commanded_108 : decode cX12_commanded 108 = .ok (.aload_n 0, 1) := by decide +kernel
theorem dX12_commanded_109 : decode cX12_commanded 109 = .ok (.getfield 50, 3) := by decide +kernel
theorem dX12_commanded_112 : decode cX12_commanded 112 = .ok (.iload 4, 2) := by decide +kernel
theorem dX12_commanded_114 : decode cX12_commanded 114 = .ok (.if_icmp .ne 14, 3) := by decide +kernel
theorem dX12_commanded_117 : decode cX12_commanded 117 = .ok (.aload_n 0, 1) := by decide +kernel
theorem dX12_commanded_118 : decode cX12_commanded 118 = .ok (.invokevirtual 330, 3) := by decide +kernel
theorem dX12_commanded_121 : decode cX12_commanded 121 = .ok (.ifCond .ne 7, 3) := by decide +kernel
theorem dX12_commanded_124 : decode cX12_commanded 124 = .ok (.iconst (-1), 1) := by decide +kernel
theorem dX12_commanded_125 : decode cX12_commanded 125 = .ok (.goto 7, 3) := by decide +kernel
theorem dX12_commanded_128 : decode cX12_commanded 128 = .ok (.aload_n 0, 1) := by decide +kernel
theorem dX12_commanded_129 : decode cX12_commanded 129 = .ok (.getfield 50, 3) := by decide +kernel
theorem dX12_commanded_132 : decode cX12_commanded 132 = .ok (.putfield 50, 3) := by decide +kernel
theorem dX12_commanded_135 : decode cX12_commanded 135 = .ok (.return_, 1) := by decide +kernel
theorem dX12_commanded_136 : decode cX12_commanded 136 = .ok (.iload 5, 2) := by decide +kernel
theorem dX12_commanded_138 : decode cX12_commanded 138 = .ok (.iconst 2, 1) := by decide +kernel
theorem dX12_commanded_139 : decode cX12_commanded 139 = .ok (.if_icmp .ne 8, 3) := by decide +kernel
theorem dX12_commanded_142 : decode cX12_commanded 142 = .ok (.bipush 11, 2) := by decide +kernel
theorem dX12_commanded_144 : decode cX12_commanded 144 = .ok (.goto 5, 3) := by decide +kernel
theorem dX12_commanded_147 : decode cX12_commanded 147 = .ok (.bipush 9, 2) := by decide +kernel
theorem dX12_commanded_149 : decode cX12_commanded 149 = .ok (.istore 6, 2) := by decide +kernel
theorem dX12_commanded_151 : decode cX12_commanded 151 = .ok (.aload_n 0, 1) := by decide +kernel
theorem dX12_commanded_152 : decode cX12_commanded 152 = .ok (.iload 6, 2) := by decide +kernel
theorem dX12_commanded_154 : decode cX12_commanded 154 = .ok (.invokevirtual 296, 3) := by decide +kernel
theorem dX12_commanded_157 : decode cX12_commanded 157 = .ok (.istore 7, 2) := by decide +kernel
theorem dX12_commanded_159 : decode cX12_commanded 159 = .ok (.iload 5, 2) := by decide +kernel
theorem dX12_commanded_161 : decode cX12_commanded 161 = .ok (.ifCond .ne 10, 3) := by decide +kernel
theorem dX12_commanded_164 : decode cX12_commanded 164 = .ok (.iload 7, 2) := by decide +kernel
theorem dX12_commanded_166 : decode cX12_commanded 166 = .ok (.iconst 2, 1) := by decide +kernel
theorem dX12_commanded_167 : decode cX12_commanded 167 = .ok (.iand, 1) := by decide +kernel
theorem dX12_commanded_168 : decode cX12_commanded 168 = .ok (.ifCond .ne 25, 3) := by decide +kernel
theorem dX12_commanded_171 : decode cX12_commanded 171 = .ok (.iload 5, 2) := by decide +kernel
theorem dX12_commanded_173 : decode cX12_commanded 173 = .ok (.iconst 1, 1) := by decide +kernel
theorem dX12_commanded_174 : decode cX12_commanded 174 = .ok (.if_icmp .ne 27, 3) := by decide +kernel
theorem dX12_commanded_177 : decode cX12_commanded 177 = .ok (.iload 7, 2) := by decide +kernel
theorem dX12_commanded_179 : decode cX12_commanded 179 = .ok (.iconst 3, 1) := by decide +kernel
theorem dX12_commanded_180 : decode cX12_commanded 180 = .ok (.iand, 1) := by decide +kernel
theorem dX12_commanded_181 : decode cX12_commanded 181 = .ok (.iconst 1, 1) := by decide +kernel
theorem dX12_commanded_182 : decode cX12_commanded 182 = .ok (.if_icmp .eq 19, 3) := by decide +kernel
theorem dX12_commanded_185 : decode cX12_commanded 185 = .ok (.iload 7, 2) := by decide +kernel
theorem dX12_commanded_187 : decode cX12_commanded 187 = .ok (.iconst 3, 1) := by decide +kernel
theorem dX12_commanded_188 : decode cX12_commanded 188 = .ok (.iand, 1) := by decide +kernel
theorem dX12_commanded_189 : decode cX12_commanded 189 = .ok (.iconst 2, 1) := by decide +kernel
theorem dX12_commanded_190 : decode cX12_commanded 190 = .ok (.if_icmp .eq 11, 3) := by decide +kernel
theorem dX12_commanded_193 : decode cX12_commanded 193 = .ok (.aload_n 0, 1) := by decide +kernel
theorem dX12_commanded_194 : decode cX12_commanded 194 = .ok (.bipush 7, 2) := by decide +kernel
theorem dX12_commanded_196 : decode cX12_commanded 196 = .ok (.iconst 1, 1) := by decide +kernel
theorem dX12_commanded_197 : decode cX12_commanded 197 = .ok (.invokevirtual 313, 3) := by decide +kernel
theorem dX12_commanded_200 : decode cX12_commanded 200 = .ok (.return_, 1) := by decide +kernel
theorem dX12_commanded_201 : decode cX12_commanded 201 = .ok (.iload 7, 2) := by decide +kernel
theorem dX12_commanded_203 : decode cX12_commanded 203 = .ok (.sipush 128, 3) := by decide +kernel
theorem dX12_commanded_206 : decode cX12_commanded 206 = .ok (.iand, 1) := by decide +kernel
theorem dX12_commanded_207 : decode cX12_commanded 207 = .ok (.ifCond .eq 93, 3) := by decide +kernel
theorem dX12_commanded_210 : decode cX12_commanded 210 = .ok (.aload_n 0, 1) := by decide +kernel
theorem dX12_commanded_211 : decode cX12_commanded 211 = .ok (.getfield 44, 3) := by decide +kernel
theorem dX12_commanded_214 : decode cX12_commanded 214 = .ok (.iload 4, 2) := by decide +kernel
theorem dX12_commanded_216 : decode cX12_commanded 216 = .ok (.baload, 1) := by decide +kernel
theorem dX12_commanded_217 : decode cX12_commanded 217 = .ok (.ifCond .eq 15, 3) := by decide +kernel
theorem dX12_commanded_220 : decode cX12_commanded 220 = .ok (.aload_n 0, 1) := by decide +kernel
theorem dX12_commanded_221 : decode cX12_commanded 221 = .ok (.getfield 50, 3) := by decide +kernel
theorem dX12_commanded_224 : decode cX12_commanded 224 = .ok (.iconst (-1), 1) := by decide +kernel
theorem dX12_commanded_225 : decode cX12_commanded 225 = .ok (.if_icmp .ne 7, 3) := by decide +kernel
theorem dX12_commanded_228 : decode cX12_commanded 228 = .ok (.iconst 1, 1) := by decide +kernel
theorem dX12_commanded_229 : decode cX12_commanded 229 = .ok (.goto 4, 3) := by decide +kernel
theorem dX12_commanded_232 : decode cX12_commanded 232 = .ok (.iconst 0, 1) := by decide +kernel
theorem dX12_commanded_233 : decode cX12_commanded 233 = .ok (.istore 8, 2) := by decide +kernel
theorem dX12_commanded_235 : decode cX12_commanded 235 = .ok (.aload_n 0, 1) := by decide +kernel
theorem dX12_commanded_236 : decode cX12_commanded 236 = .ok (.bipush 7, 2) := by decide +kernel
theorem dX12_commanded_238 : decode cX12_commanded 238 = .ok (.iload 8, 2) := by decide +kernel
theorem dX12_commanded_240 : decode cX12_commanded 240 = .ok (.ifCond .ne 7, 3) := by decide +kernel
theorem dX12_commanded_243 : decode cX12_commanded 243 = .ok (.iconst 1, 1) := by decide +kernel
theorem dX12_commanded_244 : decode cX12_commanded 244 = .ok (.goto 4, 3) := by decide +kernel
theorem dX12_commanded_247 : decode cX12_commanded 247 = .ok (.iconst 0, 1) := by decide +kernel
theorem dX12_commanded_248 : decode cX12_commanded 248 = .ok (.invokevirtual 313, 3) := by decide +kernel
theorem dX12_commanded_251 : decode cX12_commanded 251 = .ok (.iload 8, 2) := by decide +kernel
theorem dX12_commanded_253 : decode cX12_commanded 253 = .ok (.ifCond .eq 46, 3) := by decide +kernel
theorem dX12_commanded_256 : decode cX12_commanded 256 = .ok (.aload_n 0, 1) := by decide +kernel
theorem dX12_commanded_257 : decode cX12_commanded 257 = .ok (.invokevirtual 330, 3) := by decide +kernel
theorem dX12_commanded_260 : decode cX12_commanded 260 = .ok (.ifCond .ne 39, 3) := by decide +kernel
theorem dX12_commanded_263 : decode cX12_commanded 263 = .ok (.aload_n 0, 1) := by decide +kernel
theorem dX12_commanded_264 : decode cX12_commanded 264 = .ok (.getfield 125, 3) := by decide +kernel
theorem dX12_commanded_267 : decode cX12_commanded 267 = .ok (.ifCond .eq 32, 3) := by decide +kernel
theorem dX12_commanded_270 : decode cX12_commanded 270 = .ok (.aload_n 0, 1) := by decide +kernel
theorem dX12_commanded_271 : decode cX12_commanded 271 = .ok (.iload 4, 2) := by decide +kernel
theorem dX12_commanded_273 : decode cX12_commanded 273 = .ok (.putfield 50, 3) := by decide +kernel
theorem dX12_commanded_276 : decode cX12_commanded 276 = .ok (.aload_n 0, 1) := by decide +kernel
theorem dX12_commanded_277 : decode cX12_commanded 277 = .ok (.aload_n 0, 1) := by decide +kernel
theorem dX12_commanded_278 : decode cX12_commanded 278 = .ok (.getfield 209, 3) := by decide +kernel
theorem dX12_commanded_281 : decode cX12_commanded 281 = .ok (.putfield 333, 3) := by decide +kernel
theorem dX12_commanded_284 : decode cX12_commanded 284 = .ok (.aload_n 0, 1) := by decide +kernel
theorem dX12_commanded_285 : decode cX12_commanded 285 = .ok (.aload_n 0, 1) := by decide +kernel
theorem dX12_commanded_286 : decode cX12_commanded 286 = .ok (.iconst 3, 1) := by decide +kernel
theorem dX12_commanded_287 : decode cX12_commanded 287 = .ok (.invokevirtual 296, 3) := by decide +kernel
theorem dX12_commanded_290 : decode cX12_commanded 290 = .ok (.putfield 336, 3) := by decide +kernel
theorem dX12_commanded_293 : decode cX12_commanded 293 = .ok (.aload_n 0, 1) := by decide +kernel
theorem dX12_commanded_294 : decode cX12_commanded 294 = .ok (.iload 6, 2) := by decide +kernel
theorem dX12_commanded_296 : decode cX12_commanded 296 = .ok (.invokevirtual 339, 3) := by decide +kernel
theorem dX12_commanded_299 : decode cX12_commanded 299 = .ok (.return_, 1) := by decide +kernel
theorem dX12_commanded_300 : decode cX12_commanded 300 = .ok (.aload_n 0, 1) := by decide +kernel
theorem dX12_commanded_301 : decode cX12_commanded 301 = .ok (.getfield 44, 3) := by decide +kernel
theorem dX12_commanded_304 : decode cX12_commanded 304 = .ok (.iload 4, 2) := by decide +kernel
theorem dX12_commanded_306 : decode cX12_commanded 306 = .ok (.baload, 1) := by decide +kernel
theorem dX12_commanded_307 : decode cX12_commanded 307 = .ok (.ifCond .eq 33, 3) := by decide +kernel
theorem dX12_commanded_310 : decode cX12_commanded 310 = .ok (.aload_n 0, 1) := by decide +kernel
theorem dX12_commanded_311 : decode cX12_commanded 311 = .ok (.getfield 50, 3) := by decide +kernel
theorem dX12_commanded_314 : decode cX12_commanded 314 = .ok (.iload 4, 2) := by decide +kernel
theorem dX12_commanded_316 : decode cX12_commanded 316 = .ok (.if_icmp .ne 28, 3) := by decide +kernel
theorem dX12_commanded_319 : decode cX12_commanded 319 = .ok (.aload_n 0, 1) := by decide +kernel
theorem dX12_commanded_320 : decode cX12_commanded 320 = .ok (.getfield 336, 3) := by decide +kernel
theorem dX12_commanded_323 : decode cX12_commanded 323 = .ok (.aload_n 0, 1) := by decide +kernel
theorem dX12_commanded_324 : decode cX12_commanded 324 = .ok (.iconst 3, 1) := by decide +kernel
theorem dX12_commanded_325 : decode cX12_commanded 325 = .ok (.invokevirtual 296, 3) := by decide +kernel
theorem dX12_commanded_328 : decode cX12_commanded 328 = .ok (.if_icmp .ne 16, 3) := by decide +kernel
theorem dX12_commanded_331 : decode cX12_commanded 331 = .ok (.aload_n 0, 1) := by decide +kernel
theorem dX12_commanded_332 : decode cX12_commanded 332 = .ok (.iload 6, 2) := by decide +kernel
theorem dX12_commanded_334 : decode cX12_commanded 334 = .ok (.invokevirtual 342, 3) := by decide +kernel
theorem dX12_commanded_337 : decode cX12_commanded 337 = .ok (.ifCond .eq 7, 3) := by decide +kernel
theorem dX12_commanded_340 : decode cX12_commanded 340 = .ok (.iconst 1, 1) := by decide +kernel
theorem dX12_commanded_341 : decode cX12_commanded 341 = .ok (.goto 4, 3) := by decide +kernel
theorem dX12_commanded_344 : decode cX12_commanded 344 = .ok (.iconst 0, 1) := by decide +kernel
theorem dX12_commanded_345 : decode cX12_commanded 345 = .ok (.istore 8, 2) := by decide +kernel
theorem dX12_commanded_347 : decode cX12_commanded 347 = .ok (.aload_n 0, 1) := by decide +kernel
theorem dX12_commanded_348 : decode cX12_commanded 348 = .ok (.aload_n 0, 1) := by decide +kernel
theorem dX12_commanded_349 : decode cX12_commanded 349 = .ok (.getfield 50, 3) := by decide +kernel
theorem dX12_commanded_352 : decode cX12_commanded 352 = .ok (.iload 4, 2) := by decide +kernel
theorem dX12_commanded_354 : decode cX12_commanded 354 = .ok (.if_icmp .ne 14, 3) := by decide +kernel
theorem dX12_commanded_357 : decode cX12_commanded 357 = .ok (.aload_n 0, 1) := by decide +kernel
theorem dX12_commanded_358 : decode cX12_commanded 358 = .ok (.invokevirtual 330, 3) := by decide +kernel
theorem dX12_commanded_361 : decode cX12_commanded 361 = .ok (.ifCond .ne 7, 3) := by decide +kernel
theorem dX12_commanded_364 : decode cX12_commanded 364 = .ok (.iconst (-1), 1) := by decide +kernel
theorem dX12_commanded_365 : decode cX12_commanded 365 = .ok (.goto 7, 3) := by decide +kernel
theorem dX12_commanded_368 : decode cX12_commanded 368 = .ok (.aload_n 0, 1) := by decide +kernel
theorem dX12_commanded_369 : decode cX12_commanded 369 = .ok (.getfield 50, 3) := by decide +kernel
theorem dX12_commanded_372 : decode cX12_commanded 372 = .ok (.putfield 50, 3) := by decide +kernel
theorem dX12_commanded_375 : decode cX12_commanded 375 = .ok (.aload_n 0, 1) := by decide +kernel
theorem dX12_commanded_376 : decode cX12_commanded 376 = .ok (.bipush 7, 2) := by decide +kernel
theorem dX12_commanded_378 : decode cX12_commanded 378 = .ok (.iload 8, 2) := by decide +kernel
theorem dX12_commanded_380 : decode cX12_commanded 380 = .ok (.ifCond .ne 7, 3) := by decide +kernel
theorem dX12_commanded_383 : decode cX12_commanded 383 = .ok (.iconst 1, 1) := by decide +kernel
theorem dX12_commanded_384 : decode cX12_commanded 384 = .ok (.goto 4, 3) := by decide +kernel
theorem dX12_commanded_387 : decode cX12_commanded 387 = .ok (.iconst 0, 1) := by decide +kernel
theorem dX12_commanded_388 : decode cX12_commanded 388 = .ok (.invokevirtual 313, 3) := by decide +kernel
theorem dX12_commanded_391 : decode cX12_commanded 391 = .ok (.iload 8, 2) := by decide +kernel
theorem dX12_commanded_393 : decode cX12_commanded 393 = .ok (.ifCond .eq 13, 3) := by decide +kernel
theorem dX12_commanded_396 : decode cX12_commanded 396 = .ok (.aload_n 0, 1) := by decide +kernel
theorem dX12_commanded_397 : decode cX12_commanded 397 = .ok (.iload 4, 2) := by decide +kernel
theorem dX12_commanded_399 : decode cX12_commanded 399 = .ok (.iload 5, 2) := by decide +kernel
theorem dX12_commanded_401 : decode cX12_commanded 401 = .ok (.iload 7, 2) := by decide +kernel
theorem dX12_commanded_403 : decode cX12_commanded 403 = .ok (.invokevirtual 345, 3) := by decide +kernel
theorem dX12_commanded_406 : decode cX12_commanded 406 = .ok (.return_, 1) := by decide +kernel
theorem dX12_keepBytes_0 : decode cX12_keepBytes 0 = .ok (.bipush 9, 2) := by decide +kernel
theorem dX12_keepBytes_2 : decode cX12_keepBytes 2 = .ok (.istore_n 2, 1) := by decide +kernel
theorem dX12_keepBytes_3 : decode cX12_keepBytes 3 = .ok (.iload_n 2, 1) := by decide +kernel
theorem dX12_keepBytes_4 : decode cX12_keepBytes 4 = .ok (.iload_n 1, 1) := by decide +kernel
theorem dX12_keepBytes_5 : decode cX12_keepBytes 5 = .ok (.if_icmp .gt 39, 3) := by decide +kernel
theorem dX12_keepBytes_8 : decode cX12_keepBytes 8 = .ok (.aload_n 0, 1) := by decide +kernel
theorem dX12_keepBytes_9 : decode cX12_keepBytes 9 = .ok (.getfield 54, 3) := by decide +kernel
theorem dX12_keepBytes_12 : decode cX12_keepBytes 12 = .ok (.iload_n 2, 1) := by decide +kernel
theorem dX12_keepBytes_13 : decode cX12_keepBytes 13 = .ok (.bipush 9, 2) := by decide +kernel
theorem dX12_keepBytes_15 : decode cX12_keepBytes 15 = .ok (.isub, 1) := by decide +kernel
theorem dX12_keepBytes_16 : decode cX12_keepBytes 16 = .ok (.iload_n 2, 1) := by decide +kernel
theorem dX12_keepBytes_17 : decode cX12_keepBytes 17 = .ok (.iload_n 1, 1) := by decide +kernel
theorem dX12_keepBytes_18 : decode cX12_keepBytes 18 = .ok (.if_icmp .ne 14, 3) := by decide +kernel
theorem dX12_keepBytes_21 : decode cX12_keepBytes 21 = .ok (.aload_n 0, 1) := by decide +kernel
theorem dX12_keepBytes_22 : decode cX12_keepBytes 22 = .ok (.iload_n 2, 1) := by decide +kernel
theorem dX12_keepBytes_23 : decode cX12_keepBytes 23 = .ok (.invokevirtual 296, 3) := by decide +kernel
theorem dX12_keepBytes_26 : decode cX12_keepBytes 26 = .ok (.bipush 127, 2) := by decide +kernel
theorem dX12_keepBytes_28 : decode cX12_keepBytes 28 = .ok (.iand, 1) := by decide +kernel
theorem dX12_keepBytes_29 : decode cX12_keepBytes 29 = .ok (.goto 8, 3) := by decide +kernel
theorem dX12_keepBytes_32 : decode cX12_keepBytes 32 = .ok (.aload_n 0, 1) := by decide +kernel
theorem dX12_keepBytes_33 : decode cX12_keepBytes 33 = .ok (.iload_n 2, 1) := by decide +kernel
theorem dX12_keepBytes_34 : decode cX12_keepBytes 34 = .ok (.invokevirtual 296, 3) := by decide +kernel
theorem dX12_keepBytes_37 : decode cX12_keepBytes 37 = .ok (.iastore, 1) := by decide +kernel
theorem dX12_keepBytes_38 : decode cX12_keepBytes 38 = .ok (.iinc 2 1, 3) := by decide +kernel
theorem dX12_keepBytes_41 : decode cX12_keepBytes 41 = .ok (.goto (-38), 3) := by decide +kernel
theorem dX12_keepBytes_44 : decode cX12_keepBytes 44 = .ok (.return_, 1) := by decide +kernel
theorem dX12_areBytes_0 : decode cX12_areBytes 0 = .ok (.iconst 1, 1) := by decide +kernel
theorem dX12_areBytes_1 : decode cX12_areBytes 1 = .ok (.istore_n 2, 1) := by decide +kernel
theorem dX12_areBytes_2 : decode cX12_areBytes 2 = .ok (.bipush 9, 2) := by decide +kernel
theorem dX12_areBytes_4 : decode cX12_areBytes 4 = .ok (.istore_n 3, 1) := by decide +kernel
theorem dX12_areBytes_5 : decode cX12_areBytes 5 = .ok (.iload_n 3, 1) := by decide +kernel
theorem dX12_areBytes_6 : decode cX12_areBytes 6 = .ok (.iload_n 1, 1) := by decide +kernel
theorem dX12_areBytes_7 : decode cX12_areBytes 7 = .ok (.if_icmp .gt 52, 3) := by decide +kernel
theorem dX12_areBytes_10 : decode cX12_areBytes 10 = .ok (.iload_n 2, 1) := by decide +kernel
theorem dX12_areBytes_11 : decode cX12_areBytes 11 = .ok (.ifCond .eq 40, 3) := by decide +kernel
theorem dX12_areBytes_14 : decode cX12_areBytes 14 = .ok (.aload_n 0, 1) := by decide +kernel
theorem dX12_areBytes_15 : decode cX12_areBytes 15 = .ok (.getfield 54, 3) := by decide +kernel
theorem dX12_areBytes_18 : decode cX12_areBytes 18 = .ok (.iload_n 3, 1) := by decide +kernel
theorem dX12_areBytes_19 : decode cX12_areBytes 19 = .ok (.bipush 9, 2) := by decide +kernel
theorem dX12_areBytes_21 : decode cX12_areBytes 21 = .ok (.isub, 1) := by decide +kernel
theorem dX12_areBytes_22 : decode cX12_areBytes 22 = .ok (.iaload, 1) := by decide +kernel
theorem dX12_areBytes_23 : decode cX12_areBytes 23 = .ok (.iload_n 3, 1) := by decide +kernel
theorem dX12_areBytes_24 : decode cX12_areBytes 24 = .ok (.iload_n 1, 1) := by decide +kernel
theorem dX12_areBytes_25 : decode cX12_areBytes 25 = .ok (.if_icmp .ne 14, 3) := by decide +kernel
theorem dX12_areBytes_28 : decode cX12_areBytes 28 = .ok (.aload_n 0, 1) := by decide +kernel
theorem dX12_areBytes_29 : decode cX12_areBytes 29 = .ok (.iload_n 3, 1) := by decide +kernel
theorem dX12_areBytes_30 : decode cX12_areBytes 30 = .ok (.invokevirtual 296, 3) := by decide +kernel
theorem dX12_areBytes_33 : decode cX12_areBytes 33 = .ok (.bipush 127, 2) := by decide +kernel
theorem dX12_areBytes_35 : decode cX12_areBytes 35 = .ok (.iand, 1) := by decide +kernel
theorem dX12_areBytes_36 : decode cX12_areBytes 36 = .ok (.goto 8, 3) := by decide +kernel
theorem dX12_areBytes_39 : decode cX12_areBytes 39 = .ok (.aload_n 0, 1) := by decide +kernel
theorem dX12_areBytes_40 : decode cX12_areBytes 40 = .ok (.iload_n 3, 1) := by decide +kernel
theorem dX12_areBytes_41 : decode cX12_areBytes 41 = .ok (.invokevirtual 296, 3) := by decide +kernel
theorem dX12_areBytes_44 : decode cX12_areBytes 44 = .ok (.if_icmp .ne 7, 3) := by decide +kernel
theorem dX12_areBytes_47 : decode cX12_areBytes 47 = .ok (.iconst 1, 1) := by decide +kernel
theorem dX12_areBytes_48 : decode cX12_areBytes 48 = .ok (.goto 4, 3) := by decide +kernel
theorem dX12_areBytes_51 : decode cX12_areBytes 51 = .ok (.iconst 0, 1) := by decide +kernel
theorem dX12_areBytes_52 : decode cX12_areBytes 52 = .ok (.istore_n 2, 1) := by decide +kernel
theorem dX12_areBytes_53 : decode cX12_areBytes 53 = .ok (.iinc 3 1, 3) := by decide +kernel
theorem dX12_areBytes_56 : decode cX12_areBytes 56 = .ok (.goto (-51), 3) := by decide +kernel
theorem dX12_areBytes_59 : decode cX12_areBytes 59 = .ok (.iload_n 2, 1) := by decide +kernel
theorem dX12_areBytes_60 : decode cX12_areBytes 60 = .ok (.ireturn, 1) := by decide +kernel
theorem dX12_carriesOut_0 : decode cX12_carriesOut 0 = .ok (.aload_n 0, 1) := by decide +kernel
theorem dX12_carriesOut_1 : decode cX12_carriesOut 1 = .ok (.invokevirtual 330, 3) := by decide +kernel
theorem dX12_carriesOut_4 : decode cX12_carriesOut 4 = .ok (.ifCond .ne 133, 3) := by decide +kernel
theorem dX12_carriesOut_7 : decode cX12_carriesOut 7 = .ok (.aload_n 0, 1) := by decide +kernel
theorem dX12_carriesOut_8 : decode cX12_carriesOut 8 = .ok (.getfield 125, 3) := by decide +kernel
theorem dX12_carriesOut_11 : decode cX12_carriesOut 11 = .ok (.ifCond .eq 126, 3) := by decide +kernel
theorem dX12_carriesOut_14 : decode cX12_carriesOut 14 = .ok (.aload_n 0, 1) := by decide +kernel
theorem dX12_carriesOut_15 : decode cX12_carriesOut 15 = .ok (.getfield 47, 3) := by decide +kernel
theorem dX12_carriesOut_18 : decode cX12_carriesOut 18 = .ok (.iload_n 1, 1) := by decide +kernel
theorem dX12_carriesOut_19 : decode cX12_carriesOut 19 = .ok (.dup2, 1) := by decide +kernel
theorem dX12_carriesOut_20 : decode cX12_carriesOut 20 = .ok (.iaload, 1) := by decide +kernel
theorem dX12_carriesOut_21 : decode cX12_carriesOut 21 = .ok (.iconst 1, 1) := by decide +kernel
theorem dX12_carriesOut_22 : decode cX12_carriesOut 22 = .ok (.iadd, 1) := by decide +kernel
theorem dX12_carriesOut_23 : decode cX12_carriesOut 23 = .ok (.iastore, 1) := by decide +kernel
theorem dX12_carriesOut_24 : decode cX12_carriesOut 24 = .ok (.aload_n 0, 1) := by decide +kernel
theorem dX12_carriesOut_25 : decode cX12_carriesOut 25 = .ok (.getfield 41, 3) := by decide +kernel
theorem dX12_carriesOut_28 : decode cX12_carriesOut 28 = .ok (.iload_n 1, 1) := by decide +kernel
theorem dX12_carriesOut_29 : decode cX12_carriesOut 29 = .ok (.iaload, 1) := by decide +kernel
theorem dX12_carriesOut_30 : decode cX12_carriesOut 30 = .ok (.istore 4, 2) := by decide +kernel
theorem dX12_carriesOut_32 : decode cX12_carriesOut 32 = .ok (.iload 4, 2) := by decide +kernel
theorem dX12_carriesOut_34 : decode cX12_carriesOut 34 = .ok (.iconst (-1), 1) := by decide +kernel
theorem dX12_carriesOut_35 : decode cX12_carriesOut 35 = .ok (.if_icmp .eq 102, 3) := by decide +kernel
theorem dX12_carriesOut_38 : decode cX12_carriesOut 38 = .ok (.aload_n 0, 1) := by decide +kernel
theorem dX12_carriesOut_39 : decode cX12_carriesOut 39 = .ok (.getfield 26, 3) := by decide +kernel
theorem dX12_carriesOut_42 : decode cX12_carriesOut 42 = .ok (.iload 4, 2) := by decide +kernel
theorem dX12_carriesOut_44 : decode cX12_carriesOut 44 = .ok (.iload_n 2, 1) := by decide +kernel
theorem dX12_carriesOut_45 : decode cX12_carriesOut 45 = .ok (.ifCond .ne 9, 3) := by decide +kernel
theorem dX12_carriesOut_48 : decode cX12_carriesOut 48 = .ok (.iload_n 3, 1) := by decide +kernel
theorem dX12_carriesOut_49 : decode cX12_carriesOut 49 = .ok (.iconst 1, 1) := by decide +kernel
theorem dX12_carriesOut_50 : decode cX12_carriesOut 50 = .ok (.iand, 1) := by decide +kernel
theorem dX12_carriesOut_51 : decode cX12_carriesOut 51 = .ok (.goto 37, 3) := by decide +kernel
theorem dX12_carriesOut_54 : decode cX12_carriesOut 54 = .ok (.iload_n 2, 1) := by decide +kernel
theorem dX12_carriesOut_55 : decode cX12_carriesOut 55 = .ok (.iconst 1, 1) := by decide +kernel
theorem dX12_carriesOut_56 : decode cX12_carriesOut 56 = .ok (.if_icmp .ne 9, 3) := by decide +kernel
theorem dX12_carriesOut_59 : decode cX12_carriesOut 59 = .ok (.iload_n 3, 1) := by decide +kernel
theorem dX12_carriesOut_60 : decode cX12_carriesOut 60 = .ok (.iconst 3, 1) := by decide +kernel
theorem dX12_carriesOut_61 : decode cX12_carriesOut 61 = .ok (.iand, 1) := by decide +kernel
theorem dX12_carriesOut_62 : decode cX12_carriesOut 62 = .ok (.goto 26, 3) := by decide +kernel
theorem dX12_carriesOut_65 : decode cX12_carriesOut 65 = .ok (.aload_n 0, 1) := by decide +kernel
theorem dX12_carriesOut_66 : decode cX12_carriesOut 66 = .ok (.bipush 9, 2) := by decide +kernel
theorem dX12_carriesOut_68 : decode cX12_carriesOut 68 = .ok (.invokevirtual 296, 3) := by decide +kernel
theorem dX12_carriesOut_71 : decode cX12_carriesOut 71 = .ok (.sipush 256, 3) := by decide +kernel
theorem dX12_carriesOut_74 : decode cX12_carriesOut 74 = .ok (.aload_n 0, 1) := by decide +kernel
theorem dX12_carriesOut_75 : decode cX12_carriesOut 75 = .ok (.bipush 10, 2) := by decide +kernel
theorem dX12_carriesOut_77 : decode cX12_carriesOut 77 = .ok (.invokevirtual 296, 3) := by decide +kernel
theorem dX12_carriesOut_80 : decode cX12_carriesOut 80 = .ok (.imul, 1) := by decide +kernel
theorem dX12_carriesOut_81 : decode cX12_carriesOut 81 = .ok (.iadd, 1) := by decide +kernel
theorem dX12_carriesOut_82 : decode cX12_carriesOut 82 = .ok (.bipush 16, 2) := by decide +kernel
theorem dX12_carriesOut_84 : decode cX12_carriesOut 84 = .ok (.ishl, 1) := by decide +kernel
theorem dX12_carriesOut_85 : decode cX12_carriesOut 85 = .ok (.bipush 16, 2) := by decide +kernel
theorem dX12_carriesOut_87 : decode cX12_carriesOut 87 = .ok (.ishr, 1) := by decide +kernel
theorem dX12_carriesOut_88 : decode cX12_carriesOut 88 = .ok (.iastore, 1) := by decide +kernel
theorem dX12_carriesOut_89 : decode cX12_carriesOut 89 = .ok (.aload_n 0, 1) := by decide +kernel
theorem dX12_carriesOut_90 : decode cX12_carriesOut 90 = .ok (.aload_n 0, 1) := by decide +kernel
theorem dX12_carriesOut_91 : decode cX12_carriesOut 91 = .ok (.getfield 13, 3) := by decide +kernel
theorem dX12_carriesOut_94 : decode cX12_carriesOut 94 = .ok (.iload 4, 2) := by decide +kernel
theorem dX12_carriesOut_96 : decode cX12_carriesOut 96 = .ok (.iaload, 1) := by decide +kernel
theorem dX12_carriesOut_97 : decode cX12_carriesOut 97 = .ok (.invokestatic 238, 3) := by decide +kernel
theorem dX12_carriesOut_100 : decode cX12_carriesOut 100 = .ok (.iconst 1, 1) := by decide +kernel
theorem dX12_carriesOut_101 : decode cX12_carriesOut 101 = .ok (.bipush 11, 2) := by decide +kernel
theorem dX12_carriesOut_103 : decode cX12_carriesOut 103 = .ok (.aload_n 0, 1) := by decide +kernel
theorem dX12_carriesOut_104 : decode cX12_carriesOut 104 = .ok (.iconst 3, 1) := by decide +kernel
theorem dX12_carriesOut_105 : decode cX12_carriesOut 105 = .ok (.invokevirtual 296, 3) := by decide +kernel
theorem dX12_carriesOut_108 : decode cX12_carriesOut 108 = .ok (.invokevirtual 241, 3) := by decide +kernel
theorem dX12_carriesOut_111 : decode cX12_carriesOut 111 = .ok (.aload_n 0, 1) := by decide +kernel
theorem dX12_carriesOut_112 : decode cX12_carriesOut 112 = .ok (.iload 4, 2) := by decide +kernel
theorem dX12_carriesOut_114 : decode cX12_carriesOut 114 = .ok (.aload_n 0, 1) := by decide +kernel
theorem dX12_carriesOut_115 : decode cX12_carriesOut 115 = .ok (.getfield 26, 3) := by decide +kernel
theorem dX12_carriesOut_118 : decode cX12_carriesOut 118 = .ok (.iload 4, 2) := by decide +kernel
theorem dX12_carriesOut_120 : decode cX12_carriesOut 120 = .ok (.iaload, 1) := by decide +kernel
theorem dX12_carriesOut_121 : decode cX12_carriesOut 121 = .ok (.aload_n 0, 1) := by decide +kernel
theorem dX12_carriesOut_122 : decode cX12_carriesOut 122 = .ok (.getfield 29, 3) := by decide +kernel
theorem dX12_carriesOut_125 : decode cX12_carriesOut 125 = .ok (.iload 4, 2) := by decide +kernel
theorem dX12_carriesOut_127 : decode cX12_carriesOut 127 = .ok (.iaload, 1) := by decide +kernel
theorem dX12_carriesOut_128 : decode cX12_carriesOut 128 = .ok (.invokevirtual 245, 3) := by decide +kernel
theorem dX12_carriesOut_131 : decode cX12_carriesOut 131 = .ok (.aload_n 0, 1) := by decide +kernel
theorem dX12_carriesOut_132 : decode cX12_carriesOut 132 = .ok (.invokevirtual 299, 3) := by decide +kernel
theorem dX12_carriesOut_135 : decode cX12_carriesOut 135 = .ok (.istore 5, 2) := by decide +kernel
theorem dX12_carriesOut_137 : decode cX12_carriesOut 137 = .ok (.aload_n 0, 1) := by decide +kernel
theorem dX12_carriesOut_138 : decode cX12_carriesOut 138 = .ok (.getfield 125, 3) := by decide +kernel
theorem dX12_carriesOut_141 : decode cX12_carriesOut 141 = .ok (.ifCond .eq 10, 3) := by decide +kernel
theorem dX12_carriesOut_144 : decode cX12_carriesOut 144 = .ok (.aload_n 0, 1) := by decide +kernel
theorem dX12_carriesOut_145 : decode cX12_carriesOut 145 = .ok (.bipush 10, 2) := by decide +kernel
theorem dX12_carriesOut_147 : decode cX12_carriesOut 147 = .ok (.iconst 0, 1) := by decide +kernel
theorem dX12_carriesOut_148 : decode cX12_carriesOut 148 = .ok (.invokevirtual 313, 3) := by decide +kernel
theorem dX12_carriesOut_151 : decode cX12_carriesOut 151 = .ok (.return_, 1) := by decide +kernel
theorem dX12_reads_0 : decode cX12_reads 0 = .ok (.iconst 0, 1) := by decide +kernel
theorem dX12_reads_1 : decode cX12_reads 1 = .ok (.istore_n 2, 1) := by decide +kernel
theorem dX12_reads_2 : decode cX12_reads 2 = .ok (.iload_n 2, 1) := by decide +kernel
theorem dX12_reads_3 : decode cX12_reads 3 = .ok (.aload_n 0, 1) := by decide +kernel
theorem dX12_reads_4 : decode cX12_reads 4 = .ok (.getfield 108, 3) := by decide +kernel
theorem dX12_reads_7 : decode cX12_reads 7 = .ok (.if_icmp .ge 19, 3) := by decide +kernel
theorem dX12_reads_10 : decode cX12_reads 10 = .ok (.aload_n 0, 1) := by decide +kernel
theorem dX12_reads_11 : decode cX12_reads 11 = .ok (.getfield 16, 3) := by decide +kernel
theorem dX12_reads_14 : decode cX12_reads 14 = .ok (.iload_n 2, 1) := by decide +kernel
theorem dX12_reads_15 : decode cX12_reads 15 = .ok (.iaload, 1) := by decide +kernel
theorem dX12_reads_16 : decode cX12_reads 16 = .ok (.iload_n 1, 1) := by decide +kernel
theorem dX12_reads_17 : decode cX12_reads 17 = .ok (.if_icmp .eq 9, 3) := by decide +kernel
theorem dX12_reads_20 : decode cX12_reads 20 = .ok (.iinc 2 1, 3) := by decide +kernel
theorem dX12_reads_23 : decode cX12_reads 23 = .ok (.goto (-21), 3) := by decide +kernel
theorem dX12_reads_26 : decode cX12_reads 26 = .ok (.iload_n 2, 1) := by decide +kernel
theorem dX12_reads_27 : decode cX12_reads 27 = .ok (.aload_n 0, 1) := by decide +kernel
theorem dX12_reads_28 : decode cX12_reads 28 = .ok (.getfield 108, 3) := by decide +kernel
theorem dX12_reads_31 : decode cX12_reads 31 = .ok (.if_icmp .ne 13, 3) := by decide +kernel
theorem dX12_reads_34 : decode cX12_reads 34 = .ok (.aload_n 0, 1) := by decide +kernel
theorem dX12_reads_35 : decode cX12_reads 35 = .ok (.bipush 47, 2) := by decide +kernel
theorem dX12_reads_37 : decode cX12_reads 37 = .ok (.iconst 1, 1) := by decide +kernel
theorem dX12_reads_38 : decode cX12_reads 38 = .ok (.invokevirtual 313, 3) := by decide +kernel
theorem dX12_reads_41 : decode cX12_reads 41 = .ok (.goto 52, 3) := by decide +kernel
theorem dX12_reads_44 : decode cX12_reads 44 = .ok (.aload_n 0, 1) := by decide +kernel
theorem dX12_reads_45 : decode cX12_reads 45 = .ok (.invokevirtual 330, 3) := by decide +kernel
theorem dX12_reads_48 : decode cX12_reads 48 = .ok (.ifCond .ne 45, 3) := by decide +kernel
theorem dX12_reads_51 : decode cX12_reads 51 = .ok (.aload_n 0, 1) := by decide +kernel
theorem dX12_reads_52 : decode cX12_reads 52 = .ok (.aload_n 0, 1) := by decide +kernel
theorem dX12_reads_53 : decode cX12_reads 53 = .ok (.getfield 13, 3) := by decide +kernel
theorem dX12_reads_56 : decode cX12_reads 56 = .ok (.iload_n 2, 1) := by decide +kernel
theorem dX12_reads_57 : decode cX12_reads 57 = .ok (.iaload, 1) := by decide +kernel
theorem dX12_reads_58 : decode cX12_reads 58 = .ok (.invokestatic 238, 3) := by decide +kernel
theorem dX12_reads_61 : decode cX12_reads 61 = .ok (.iconst 1, 1) := by decide +kernel
theorem dX12_reads_62 : decode cX12_reads 62 = .ok (.iconst 5, 1) := by decide +kernel
theorem dX12_reads_63 : decode cX12_reads 63 = .ok (.aload_n 0, 1) := by decide +kernel
theorem dX12_reads_64 : decode cX12_reads 64 = .ok (.iconst 3, 1) := by decide +kernel
theorem dX12_reads_65 : decode cX12_reads 65 = .ok (.invokevirtual 296, 3) := by decide +kernel
theorem dX12_reads_68 : decode cX12_reads 68 = .ok (.invokevirtual 241, 3) := by decide +kernel
theorem dX12_reads_71 : decode cX12_reads 71 = .ok (.aload_n 0, 1) := by decide +kernel
theorem dX12_reads_72 : decode cX12_reads 72 = .ok (.iload_n 2, 1) := by decide +kernel
theorem dX12_reads_73 : decode cX12_reads 73 = .ok (.aload_n 0, 1) := by decide +kernel
theorem dX12_reads_74 : decode cX12_reads 74 = .ok (.getfield 26, 3) := by decide +kernel
theorem dX12_reads_77 : decode cX12_reads 77 = .ok (.iload_n 2, 1) := by decide +kernel
theorem dX12_reads_78 : decode cX12_reads 78 = .ok (.iaload, 1) := by decide +kernel
theorem dX12_reads_79 : decode cX12_reads 79 = .ok (.aload_n 0, 1) := by decide +kernel
theorem dX12_reads_80 : decode cX12_reads 80 = .ok (.getfield 29, 3) := by decide +kernel
theorem dX12_reads_83 : decode cX12_reads 83 = .ok (.iload_n 2, 1) := by decide +kernel
theorem dX12_reads_84 : decode cX12_reads 84 = .ok (.iaload, 1) := by decide +kernel
theorem dX12_reads_85 : decode cX12_reads 85 = .ok (.invokevirtual 245, 3) := by decide +kernel
theorem dX12_reads_88 : decode cX12_reads 88 = .ok (.aload_n 0, 1) := by decide +kernel
theorem dX12_reads_89 : decode cX12_reads 89 = .ok (.invokevirtual 299, 3) := by decide +kernel
theorem dX12_reads_92 : decode cX12_reads 92 = .ok (.istore_n 3, 1) := by decide +kernel
theorem dX12_reads_93 : decode cX12_reads 93 = .ok (.return_, 1) := by decide +kernel
theorem dX12_objects_0 : decode cX12_objects 0 = .ok (.iconst 0, 1) := by decide +kernel
theorem dX12_objects_1 : decode cX12_objects 1 = .ok (.istore 4, 2) := by decide +kernel
theorem dX12_objects_3 : decode cX12_objects 3 = .ok (.iconst 0, 1) := by decide +kernel
theorem dX12_objects_4 : decode cX12_objects 4 = .ok (.istore 5, 2) := by decide +kernel
theorem dX12_objects_6 : decode cX12_objects 6 = .ok (.iload 5, 2) := by decide +kernel
theorem dX12_objects_8 : decode cX12_objects 8 = .ok (.aload_n 0, 1) := by decide +kernel
theorem dX12_objects_9 : decode cX12_objects 9 = .ok (.getfield 108, 3) := by decide +kernel
theorem dX12_objects_12 : decode cX12_objects 12 = .ok (.if_icmp .ge 112, 3) := by decide +kernel
theorem dX12_objects_15 : decode cX12_objects 15 = .ok (.aload_n 0, 1) := by decide +kernel
theorem dX12_objects_16 : decode cX12_objects 16 = .ok (.getfield 13, 3) := by decide +kernel
theorem dX12_objects_19 : decode cX12_objects 19 = .ok (.iload 5, 2) := by decide +kernel
theorem dX12_objects_21 : decode cX12_objects 21 = .ok (.iaload, 1) := by decide +kernel
theorem dX12_objects_22 : decode cX12_objects 22 = .ok (.bipush 6, 2) := by decide +kernel
theorem dX12_objects_24 : decode cX12_objects 24 = .ok (.if_icmp .ne 7, 3) := by decide +kernel
theorem dX12_objects_27 : decode cX12_objects 27 = .ok (.iconst 1, 1) := by decide +kernel
theorem dX12_objects_28 : decode cX12_objects 28 = .ok (.goto 4, 3) := by decide +kernel
theorem dX12_objects_31 : decode cX12_objects 31 = .ok (.iconst 0, 1) := by decide +kernel
theorem dX12_objects_32 : decode cX12_objects 32 = .ok (.iload_n 2, 1) := by decide +kernel
theorem dX12_objects_33 : decode cX12_objects 33 = .ok (.if_icmp .ne 85, 3) := by decide +kernel
theorem dX12_objects_36 : decode cX12_objects 36 = .ok (.iload_n 1, 1) := by decide +kernel
theorem dX12_objects_37 : decode cX12_objects 37 = .ok (.ifCond .eq 14, 3) := by decide +kernel
theorem dX12_objects_40 : decode cX12_objects 40 = .ok (.aload_n 0, 1) := by decide +kernel
theorem dX12_objects_41 : decode cX12_objects 41 = .ok (.getfield 19, 3) := by decide +kernel
theorem dX12_objects_44 : decode cX12_objects 44 = .ok (.iload 5, 2) := by decide +kernel
theorem dX12_objects_46 : decode cX12_objects 46 = .ok (.iaload, 1) := by decide +kernel
theorem dX12_objects_47 : decode cX12_objects 47 = .ok (.iload_n 1, 1) := by decide +kernel
theorem dX12_objects_48 : decode cX12_objects 48 = .ok (.if_icmp .ne 70, 3) := by decide +kernel
theorem dX12_objects_51 : decode cX12_objects 51 = .ok (.iload 4, 2) := by decide +kernel
theorem dX12_objects_53 : decode cX12_objects 53 = .ok (.istore 6, 2) := by decide +kernel
theorem dX12_objects_55 : decode cX12_objects 55 = .ok (.iload 6, 2) := by decide +kernel
theorem dX12_objects_57 : decode cX12_objects 57 = .ok (.ifCond .le 49, 3) := by decide +kernel
theorem dX12_objects_60 : decode cX12_objects 60 = .ok (.aload_n 0, 1) := by decide +kernel
theorem dX12_objects_61 : decode cX12_objects 61 = .ok (.getfield 16, 3) := by decide +kernel
theorem dX12_objects_64 : decode cX12_objects 64 = .ok (.aload_n 0, 1) := by decide +kernel
theorem dX12_objects_65 : decode cX12_objects 65 = .ok (.getfield 105, 3) := by decide +kernel
theorem dX12_objects_68 : decode cX12_objects 68 = .ok (.iload 6, 2) := by decide +kernel
theorem dX12_objects_70 : decode cX12_objects 70 = .ok (.iconst 1, 1) := by decide +kernel
theorem dX12_objects_71 : decode cX12_objects 71 = .ok (.isub, 1) := by decide +kernel
theorem dX12_objects_72 : decode cX12_objects 72 = .ok (.iaload, 1) := by decide +kernel
theorem dX12_objects_73 : decode cX12_objects 73 = .ok (.iaload, 1) := by decide +kernel
theorem dX12_objects_74 : decode cX12_objects 74 = .ok (.aload_n 0, 1) := by decide +kernel
theorem dX12_objects_75 : decode cX12_objects 75 = .ok (.getfield 16, 3) := by decide +kernel
theorem dX12_objects_78 : decode cX12_objects 78 = .ok (.iload 5, 2) := by decide +kernel
theorem dX12_objects_80 : decode cX12_objects 80 = .ok (.iaload, 1) := by decide +kernel
theorem dX12_objects_81 : decode cX12_objects 81 = .ok (.if_icmp .le 25, 3) := by decide +kernel
theorem dX12_objects_84 : decode cX12_objects 84 = .ok (.aload_n 0, 1) := by decide +kernel
theorem dX12_objects_85 : decode cX12_objects 85 = .ok (.getfield 105, 3) := by decide +kernel
theorem dX12_objects_88 : decode cX12_objects 88 = .ok (.iload 6, 2) := by decide +kernel
theorem dX12_objects_90 : decode cX12_objects 90 = .ok (.aload_n 0, 1) := by decide +kernel
theorem dX12_objects_91 : decode cX12_objects 91 = .ok (.getfield 105, 3) := by decide +kernel
theorem dX12_objects_94 : decode cX12_objects 94 = .ok (.iload 6, 2) := by decide +kernel
theorem dX12_objects_96 : decode cX12_objects 96 = .ok (.iconst 1, 1) := by decide +kernel
theorem dX12_objects_97 : decode cX12_objects 97 = .ok (.isub, 1) := by decide +kernel
theorem dX12_objects_98 : decode cX12_objects 98 = .ok (.iaload, 1) := by decide +kernel
theorem dX12_objects_99 : decode cX12_objects 99 = .ok (.iastore, 1) := by decide +kernel
theorem dX12_objects_100 : decode cX12_objects 100 = .ok (.iinc 6 (-1), 3) := by decide +kernel
theorem dX12_objects_103 : decode cX12_objects 103 = .ok (.goto (-48), 3) := by decide +kernel
theorem dX12_objects_106 : decode cX12_objects 106 = .ok (.aload_n 0, 1) := by decide +kernel
theorem dX12_objects_107 : decode cX12_objects 107 = .ok (.getfield 105, 3) := by decide +kernel
theorem dX12_objects_110 : decode cX12_objects 110 = .ok (.iload 6, 2) := by decide +kernel
theorem dX12_objects_112 : decode cX12_objects 112 = .ok (.iload 5, 2) := by decide +kernel
theorem dX12_objects_114 : decode cX12_objects 114 = .ok (.iastore, 1) := by decide +kernel
theorem dX12_objects_115 : decode cX12_objects 115 = .ok (.iinc 4 1, 3) := by decide +kernel
theorem dX12_objects_118 : decode cX12_objects 118 = .ok (.iinc 5 1, 3) := by decide +kernel
theorem dX12_objects_121 : decode cX12_objects 121 = .ok (.goto (-115), 3) := by decide +kernel
theorem dX12_objects_124 : decode cX12_objects 124 = .ok (.iconst 0, 1) := by decide +kernel
theorem dX12_objects_125 : decode cX12_objects 125 = .ok (.istore 5, 2) := by decide +kernel
theorem dX12_objects_127 : decode cX12_objects 127 = .ok (.iload 5, 2) := by decide +kernel
theorem dX12_objects_129 : decode cX12_objects 129 = .ok (.iload 4, 2) := by decide +kernel
theorem dX12_objects_131 : decode cX12_objects 131 = .ok (.if_icmp .ge 179, 3) := by decide +kernel
theorem dX12_objects_134 : decode cX12_objects 134 = .ok (.aload_n 0, 1) := by decide +kernel
theorem dX12_objects_135 : decode cX12_objects 135 = .ok (.getfield 125, 3) := by decide +kernel
theorem dX12_objects_138 : decode cX12_objects 138 = .ok (.ifCond .eq 172, 3) := by decide +kernel
theorem dX12_objects_141 : decode cX12_objects 141 = .ok (.iconst 1, 1) := by decide +kernel
theorem dX12_objects_142 : decode cX12_objects 142 = .ok (.istore 6, 2) := by decide +kernel
theorem dX12_objects_144 : decode cX12_objects 144 = .ok (.iload 5, 2) := by decide +kernel
theorem dX12_objects_146 : decode cX12_objects 146 = .ok (.iload 6, 2) := by decide +kernel
theorem dX12_objects_148 : decode cX12_objects 148 = .ok (.iadd, 1) := by decide +kernel
theorem dX12_objects_149 : decode cX12_objects 149 = .ok (.iload 4, 2) := by decide +kernel
theorem dX12_objects_151 : decode cX12_objects 151 = .ok (.if_icmp .ge 46, 3) := by decide +kernel
theorem dX12_objects_154 : decode cX12_objects 154 = .ok (.iload 6, 2) := by decide +kernel
theorem dX12_objects_156 : decode cX12_objects 156 = .ok (.bipush 6, 2) := by decide +kernel
theorem dX12_objects_158 : decode cX12_objects 158 = .ok (.if_icmp .ge 39, 3) := by decide +kernel
theorem dX12_objects_161 : decode cX12_objects 161 = .ok (.aload_n 0, 1) := by decide +kernel
theorem dX12_objects_162 : decode cX12_objects 162 = .ok (.getfield 13, 3) := by decide +kernel
theorem dX12_objects_165 : decode cX12_objects 165 = .ok (.aload_n 0, 1) := by decide +kernel
theorem dX12_objects_166 : decode cX12_objects 166 = .ok (.getfield 105, 3) := by decide +kernel
theorem dX12_objects_169 : decode cX12_objects 169 = .ok (.iload 5, 2) := by decide +kernel
theorem dX12_objects_171 : decode cX12_objects 171 = .ok (.iload 6, 2) := by decide +kernel
theorem dX12_objects_173 : decode cX12_objects 173 = .ok (.iadd, 1) := by decide +kernel
theorem dX12_objects_174 : decode cX12_objects 174 = .ok (.iaload, 1) := by decide +kernel
theorem dX12_objects_175 : decode cX12_objects 175 = .ok (.iaload, 1) := by decide +kernel
theorem dX12_objects_176 : decode cX12_objects 176 = .ok (.aload_n 0, 1) := by decide +kernel
theorem dX12_objects_177 : decode cX12_objects 177 = .ok (.getfield 13, 3) := by decide +kernel
theorem dX12_objects_180 : decode cX12_objects 180 = .ok (.aload_n 0, 1) := by decide +kernel
theorem dX12_objects_181 : decode cX12_objects 181 = .ok (.getfield 105, 3) := by decide +kernel
theorem dX12_objects_184 : decode cX12_objects 184 = .ok (.iload 5, 2) := by decide +kernel
theorem dX12_objects_186 : decode cX12_objects 186 = .ok (.iaload, 1) := by decide +kernel
theorem dX12_objects_187 : decode cX12_objects 187 = .ok (.iaload, 1) := by decide +kernel
theorem dX12_objects_188 : decode cX12_objects 188 = .ok (.if_icmp .ne 9, 3) := by decide +kernel
theorem dX12_objects_191 : decode cX12_objects 191 = .ok (.iinc 6 1, 3) := by decide +kernel
theorem dX12_objects_194 : decode cX12_objects 194 = .ok (.goto (-50), 3) := by decide +kernel
theorem dX12_objects_197 : decode cX12_objects 197 = .ok (.aload_n 0, 1) := by decide +kernel
theorem dX12_objects_198 : decode cX12_objects 198 = .ok (.aload_n 0, 1) := by decide +kernel
theorem dX12_objects_199 : decode cX12_objects 199 = .ok (.getfield 13, 3) := by decide +kernel
theorem dX12_objects_202 : decode cX12_objects 202 = .ok (.aload_n 0, 1) := by decide +kernel
theorem dX12_objects_203 : decode cX12_objects 203 = .ok (.getfield 105, 3) := by decide +kernel
theorem dX12_objects_206 : decode cX12_objects 206 = .ok (.iload 5, 2) := by decide +kernel
theorem dX12_objects_208 : decode cX12_objects 208 = .ok (.iaload, 1) := by decide +kernel
theorem dX12_objects_209 : decode cX12_objects 209 = .ok (.iaload, 1) := by decide +kernel
theorem dX12_objects_210 : decode cX12_objects 210 = .ok (.invokestatic 238, 3) := by decide +kernel
theorem dX12_objects_213 : decode cX12_objects 213 = .ok (.iload 6, 2) := by decide +kernel
theorem dX12_objects_215 : decode cX12_objects 215 = .ok (.iload_n 3, 1) := by decide +kernel
theorem dX12_objects_216 : decode cX12_objects 216 = .ok (.iconst 0, 1) := by decide +kernel
theorem dX12_objects_217 : decode cX12_objects 217 = .ok (.invokevirtual 241, 3) := by decide +kernel
theorem dX12_objects_220 : decode cX12_objects 220 = .ok (.iload 5, 2) := by decide +kernel
theorem dX12_objects_222 : decode cX12_objects 222 = .ok (.istore 7, 2) := by decide +kernel
theorem dX12_objects_224 : decode cX12_objects 224 = .ok (.iload 7, 2) := by decide +kernel
theorem dX12_objects_226 : decode cX12_objects 226 = .ok (.iload 5, 2) := by decide +kernel
theorem dX12_objects_228 : decode cX12_objects 228 = .ok (.iload 6, 2) := by decide +kernel
theorem dX12_objects_230 : decode cX12_objects 230 = .ok (.iadd, 1) := by decide +kernel
theorem dX12_objects_231 : decode cX12_objects 231 = .ok (.if_icmp .ge 63, 3) := by decide +kernel
theorem dX12_objects_234 : decode cX12_objects 234 = .ok (.aload_n 0, 1) := by decide +kernel
theorem dX12_objects_235 : decode cX12_objects 235 = .ok (.aload_n 0, 1) := by decide +kernel
theorem dX12_objects_236 : decode cX12_objects 236 = .ok (.getfield 105, 3) := by decide +kernel
theorem dX12_objects_239 : decode cX12_objects 239 = .ok (.iload 7, 2) := by decide +kernel
theorem dX12_objects_241 : decode cX12_objects 241 = .ok (.iaload, 1) := by decide +kernel
theorem dX12_objects_242 : decode cX12_objects 242 = .ok (.iload_n 2, 1) := by decide +kernel
theorem dX12_objects_243 : decode cX12_objects 243 = .ok (.ifCond .eq 18, 3) := by decide +kernel
theorem dX12_objects_246 : decode cX12_objects 246 = .ok (.aload_n 0, 1) := by decide +kernel
theorem dX12_objects_247 : decode cX12_objects 247 = .ok (.getfield 32, 3) := by decide +kernel
theorem dX12_objects_250 : decode cX12_objects 250 = .ok (.aload_n 0, 1) := by decide +kernel
theorem dX12_objects_251 : decode cX12_objects 251 = .ok (.getfield 105, 3) := by decide +kernel
theorem dX12_objects_254 : decode cX12_objects 254 = .ok (.iload 7, 2) := by decide +kernel
theorem dX12_objects_256 : decode cX12_objects 256 = .ok (.iaload, 1) := by decide +kernel
theorem dX12_objects_257 : decode cX12_objects 257 = .ok (.iaload, 1) := by decide +kernel
theorem dX12_objects_258 : decode cX12_objects 258 = .ok (.goto 15, 3) := by decide +kernel
theorem dX12_objects_261 : decode cX12_objects 261 = .ok (.aload_n 0, 1) := by decide +kernel
theorem dX12_objects_262 : decode cX12_objects 262 = .ok (.getfield 26, 3) := by decide +kernel
theorem dX12_objects_265 : decode cX12_objects 265 = .ok (.aload_n 0, 1) := by decide +kernel
theorem dX12_objects_266 : decode cX12_objects 266 = .ok (.getfield 105, 3) := by decide +kernel
theorem dX12_objects_269 : decode cX12_objects 269 = .ok (.iload 7, 2) := by decide +kernel
theorem dX12_objects_271 : decode cX12_objects 271 = .ok (.iaload, 1) := by decide +kernel
theorem dX12_objects_272 : decode cX12_objects 272 = .ok (.iaload, 1) := by decide +kernel
theorem dX12_objects_273 : decode cX12_objects 273 = .ok (.aload_n 0, 1) := by decide +kernel
theorem dX12_objects_274 : decode cX12_objects 274 = .ok (.getfield 29, 3) := by decide +kernel
theorem dX12_objects_277 : decode cX12_objects 277 = .ok (.aload_n 0, 1) := by decide +kernel
theorem dX12_objects_278 : decode cX12_objects 278 = .ok (.getfield 105, 3) := by decide +kernel
theorem dX12_objects_281 : decode cX12_objects 281 = .ok (.iload 7, 2) := by decide +kernel
theorem dX12_objects_283 : decode cX12_objects 283 = .ok (.iaload, 1) := by decide +kernel
theorem dX12_objects_284 : decode cX12_objects 284 = .ok (.iaload, 1) := by decide +kernel
theorem dX12_objects_285 : decode cX12_objects 285 = .ok (.invokevirtual 245, 3) := by decide +kernel
theorem dX12_objects_288 : decode cX12_objects 288 = .ok (.iinc 7 1, 3) := by decide +kernel
theorem dX12_objects_291 : decode cX12_objects 291 = .ok (.goto (-67), 3) := by decide +kernel
theorem dX12_objects_294 : decode cX12_objects 294 = .ok (.aload_n 0, 1) := by decide +kernel
theorem dX12_objects_295 : decode cX12_objects 295 = .ok (.invokevirtual 299, 3) := by decide +kernel
theorem dX12_objects_298 : decode cX12_objects 298 = .ok (.istore 7, 2) := by decide +kernel
theorem dX12_objects_300 : decode cX12_objects 300 = .ok (.iload 5, 2) := by decide +kernel
theorem dX12_objects_302 : decode cX12_objects 302 = .ok (.iload 6, 2) := by decide +kernel
theorem dX12_objects_304 : decode cX12_objects 304 = .ok (.iadd, 1) := by decide +kernel
theorem dX12_objects_305 : decode cX12_objects 305 = .ok (.istore 5, 2) := by decide +kernel
theorem dX12_objects_307 : decode cX12_objects 307 = .ok (.goto (-180), 3) := by decide +kernel
theorem dX12_objects_310 : decode cX12_objects 310 = .ok (.return_, 1) := by decide +kernel
theorem dX12_freezes_0 : decode cX12_freezes 0 = .ok (.iconst 0, 1) := by decide +kernel
theorem dX12_freezes_1 : decode cX12_freezes 1 = .ok (.istore_n 2, 1) := by decide +kernel
theorem dX12_freezes_2 : decode cX12_freezes 2 = .ok (.iload_n 2, 1) := by decide +kernel
theorem dX12_freezes_3 : decode cX12_freezes 3 = .ok (.aload_n 0, 1) := by decide +kernel
theorem dX12_freezes_4 : decode cX12_freezes 4 = .ok (.getfield 108, 3) := by decide +kernel
theorem dX12_freezes_7 : decode cX12_freezes 7 = .ok (.if_icmp .ge 67, 3) := by decide +kernel
theorem dX12_freezes_10 : decode cX12_freezes 10 = .ok (.aload_n 0, 1) := by decide +kernel
theorem dX12_freezes_11 : decode cX12_freezes 11 = .ok (.getfield 13, 3) := by decide +kernel
theorem dX12_freezes_14 : decode cX12_freezes 14 = .ok (.iload_n 2, 1) := by decide +kernel
theorem dX12_freezes_15 : decode cX12_freezes 15 = .ok (.iaload, 1) := by decide +kernel
theorem dX12_freezes_16 : decode cX12_freezes 16 = .ok (.bipush 6, 2) := by decide +kernel
theorem dX12_freezes_18 : decode cX12_freezes 18 = .ok (.if_icmp .ne 50, 3) := by decide +kernel
theorem dX12_freezes_21 : decode cX12_freezes 21 = .ok (.aload_n 0, 1) := by decide +kernel
theorem dX12_freezes_22 : decode cX12_freezes 22 = .ok (.getfield 32, 3) := by decide +kernel
theorem dX12_freezes_25 : decode cX12_freezes 25 = .ok (.iload_n 2, 1) := by decide +kernel
theorem dX12_freezes_26 : decode cX12_freezes 26 = .ok (.iload_n 1, 1) := by decide +kernel
theorem dX12_freezes_27 : decode cX12_freezes 27 = .ok (.iconst 3, 1) := by decide +kernel
theorem dX12_freezes_28 : decode cX12_freezes 28 = .ok (.if_icmp .ge 12, 3) := by decide +kernel
theorem dX12_freezes_31 : decode cX12_freezes 31 = .ok (.aload_n 0, 1) := by decide +kernel
theorem dX12_freezes_32 : decode cX12_freezes 32 = .ok (.getfield 26, 3) := by decide +kernel
theorem dX12_freezes_35 : decode cX12_freezes 35 = .ok (.iload_n 2, 1) := by decide +kernel
theorem dX12_freezes_36 : decode cX12_freezes 36 = .ok (.iaload, 1) := by decide +kernel
theorem dX12_freezes_37 : decode cX12_freezes 37 = .ok (.goto 9, 3) := by decide +kernel
theorem dX12_freezes_40 : decode cX12_freezes 40 = .ok (.aload_n 0, 1) := by decide +kernel
theorem dX12_freezes_41 : decode cX12_freezes 41 = .ok (.getfield 32, 3) := by decide +kernel
theorem dX12_freezes_44 : decode cX12_freezes 44 = .ok (.iload_n 2, 1) := by decide +kernel
theorem dX12_freezes_45 : decode cX12_freezes 45 = .ok (.iaload, 1) := by decide +kernel
theorem dX12_freezes_46 : decode cX12_freezes 46 = .ok (.iastore, 1) := by decide +kernel
theorem dX12_freezes_47 : decode cX12_freezes 47 = .ok (.aload_n 0, 1) := by decide +kernel
theorem dX12_freezes_48 : decode cX12_freezes 48 = .ok (.getfield 26, 3) := by decide +kernel
theorem dX12_freezes_51 : decode cX12_freezes 51 = .ok (.iload_n 2, 1) := by decide +kernel
theorem dX12_freezes_52 : decode cX12_freezes 52 = .ok (.iload_n 1, 1) := by decide +kernel
theorem dX12_freezes_53 : decode cX12_freezes 53 = .ok (.iconst 1, 1) := by decide +kernel
theorem dX12_freezes_54 : decode cX12_freezes 54 = .ok (.if_icmp .le 7, 3) := by decide +kernel
theorem dX12_freezes_57 : decode cX12_freezes 57 = .ok (.iconst 0, 1) := by decide +kernel
theorem dX12_freezes_58 : decode cX12_freezes 58 = .ok (.goto 9, 3) := by decide +kernel
theorem dX12_freezes_61 : decode cX12_freezes 61 = .ok (.aload_n 0, 1) := by decide +kernel
theorem dX12_freezes_62 : decode cX12_freezes 62 = .ok (.getfield 26, 3) := by decide +kernel
theorem dX12_freezes_65 : decode cX12_freezes 65 = .ok (.iload_n 2, 1) := by decide +kernel
theorem dX12_freezes_66 : decode cX12_freezes 66 = .ok (.iaload, 1) := by decide +kernel
theorem dX12_freezes_67 : decode cX12_freezes 67 = .ok (.iastore, 1) := by decide +kernel
theorem dX12_freezes_68 : decode cX12_freezes 68 = .ok (.iinc 2 1, 3) := by decide +kernel
theorem dX12_freezes_71 : decode cX12_freezes 71 = .ok (.goto (-69), 3) := by decide +kernel
theorem dX12_freezes_74 : decode cX12_freezes 74 = .ok (.aload_n 0, 1) := by decide +kernel
theorem dX12_freezes_75 : decode cX12_freezes 75 = .ok (.dup, 1) := by decide +kernel
theorem dX12_freezes_76 : decode cX12_freezes 76 = .ok (.getfield 219, 3) := by decide +kernel
theorem dX12_freezes_79 : decode cX12_freezes 79 = .ok (.iload_n 1, 1) := by decide +kernel
theorem dX12_freezes_80 : decode cX12_freezes 80 = .ok (.iconst 3, 1) := by decide +kernel
theorem dX12_freezes_81 : decode cX12_freezes 81 = .ok (.if_icmp .ge 7, 3) := by decide +kernel
theorem dX12_freezes_84 : decode cX12_freezes 84 = .ok (.iconst 1, 1) := by decide +kernel
theorem dX12_freezes_85 : decode cX12_freezes 85 = .ok (.goto 4, 3) := by decide +kernel
theorem dX12_freezes_88 : decode cX12_freezes 88 = .ok (.iconst 0, 1) := by decide +kernel
theorem dX12_freezes_89 : decode cX12_freezes 89 = .ok (.iadd, 1) := by decide +kernel
theorem dX12_freezes_90 : decode cX12_freezes 90 = .ok (.putfield 219, 3) := by decide +kernel
theorem dX12_freezes_93 : decode cX12_freezes 93 = .ok (.return_, 1) := by decide +kernel
theorem dX12_asked_0 : decode cX12_asked 0 = .ok (.aload_n 0, 1) := by decide +kernel
theorem dX12_asked_1 : decode cX12_asked 1 = .ok (.bipush 9, 2) := by decide +kernel
theorem dX12_asked_3 : decode cX12_asked 3 = .ok (.invokevirtual 296, 3) := by decide +kernel
theorem dX12_asked_6 : decode cX12_asked 6 = .ok (.istore_n 3, 1) := by decide +kernel
theorem dX12_asked_7 : decode cX12_asked 7 = .ok (.iload_n 1, 1) := by decide +kernel
theorem dX12_asked_8 : decode cX12_asked 8 = .ok (.bipush 100, 2) := by decide +kernel
theorem dX12_asked_10 : decode cX12_asked 10 = .ok (.if_icmp .ne 97, 3) := by decide +kernel
theorem dX12_asked_13 : decode cX12_asked 13 = .ok (.iload_n 3, 1) := by decide +kernel
theorem dX12_asked_14 : decode cX12_asked 14 = .ok (.i2l, 1) := by decide +kernel
theorem dX12_asked_15 : decode cX12_asked 15 = .ok (.ldc2_w 348, 3) := by decide +kernel
theorem dX12_asked_18 : decode cX12_asked 18 = .ok (.ldc2_w 350, 3) := by decide +kernel
theorem dX12_asked_21 : decode cX12_asked 21 = .ok (.invokestatic 111, 3) := by decide +kernel
theorem dX12_asked_24 : decode cX12_asked 24 = .ok (.istore 4, 2) := by decide +kernel
theorem dX12_asked_26 : decode cX12_asked 26 = .ok (.iload_n 2, 1) := by decide +kernel
theorem dX12_asked_27 : decode cX12_asked 27 = .ok (.bipush 8, 2) := by decide +kernel
theorem dX12_asked_29 : decode cX12_asked 29 = .ok (.if_icmp .ne 11, 3) := by decide +kernel
theorem dX12_asked_32 : decode cX12_asked 32 = .ok (.aload_n 0, 1) := by decide +kernel
theorem dX12_asked_33 : decode cX12_asked 33 = .ok (.bipush 9, 2) := by decide +kernel
theorem dX12_asked_35 : decode cX12_asked 35 = .ok (.iconst 1, 1) := by decide +kernel
theorem dX12_asked_36 : decode cX12_asked 36 = .ok (.invokevirtual 313, 3) := by decide +kernel
theorem dX12_asked_39 : decode cX12_asked 39 = .ok (.return_, 1) := by decide +kernel
theorem dX12_asked_40 : decode cX12_asked 40 = .ok (.aload_n 0, 1) := by decide +kernel
theorem dX12_asked_41 : decode cX12_asked 41 = .ok (.bipush 7, 2) := by decide +kernel
theorem dX12_asked_43 : decode cX12_asked 43 = .ok (.iload 4, 2) := by decide +kernel
theorem dX12_asked_45 : decode cX12_asked 45 = .ok (.ifCond .ne 7, 3) := by decide +kernel
theorem dX12_asked_48 : decode cX12_asked 48 = .ok (.iconst 1, 1) := by decide +kernel
theorem dX12_asked_49 : decode cX12_asked 49 = .ok (.goto 4, 3) := by decide +kernel
theorem dX12_asked_52 : decode cX12_asked 52 = .ok (.iconst 0, 1) := by decide +kernel
theorem dX12_asked_53 : decode cX12_asked 53 = .ok (.invokevirtual 313, 3) := by decide +kernel
theorem dX12_asked_56 : decode cX12_asked 56 = .ok (.iload 4, 2) := by decide +kernel
theorem dX12_asked_58 : decode cX12_asked 58 = .ok (.ifCond .eq 27, 3) := by decide +kernel
theorem dX12_asked_61 : decode cX12_asked 61 = .ok (.aload_n 0, 1) := by decide +kernel
theorem dX12_asked_62 : decode cX12_asked 62 = .ok (.invokevirtual 330, 3) := by decide +kernel
theorem dX12_asked_65 : decode cX12_asked 65 = .ok (.ifCond .ne 20, 3) := by decide +kernel
theorem dX12_asked_68 : decode cX12_asked 68 = .ok (.aload_n 0, 1) := by decide +kernel
theorem dX12_asked_69 : decode cX12_asked 69 = .ok (.getfield 125, 3) := by decide +kernel
theorem dX12_asked_72 : decode cX12_asked 72 = .ok (.ifCond .eq 13, 3) := by decide +kernel
theorem dX12_asked_75 : decode cX12_asked 75 = .ok (.aload_n 0, 1) := by decide +kernel
theorem dX12_asked_76 : decode cX12_asked 76 = .ok (.iload_n 3, 1) := by decide +kernel
theorem dX12_asked_77 : decode cX12_asked 77 = .ok (.bipush 20, 2) := by decide +kernel
theorem dX12_asked_79 : decode cX12_asked 79 = .ok (.isub, 1) := by decide +kernel
theorem dX12_asked_80 : decode cX12_asked 80 = .ok (.iconst 0, 1) := by decide +kernel
theorem dX12_asked_81 : decode cX12_asked 81 = .ok (.iload_n 3, 1) := by decide +kernel
theorem dX12_asked_82 : decode cX12_asked 82 = .ok (.invokevirtual 352, 3) := by decide +kernel
theorem dX12_asked_85 : decode cX12_asked 85 = .ok (.iload 4, 2) := by decide +kernel
theorem dX12_asked_87 : decode cX12_asked 87 = .ok (.ifCond .eq 17, 3) := by decide +kernel
theorem dX12_asked_90 : decode cX12_asked 90 = .ok (.aload_n 0, 1) := by decide +kernel
theorem dX12_asked_91 : decode cX12_asked 91 = .ok (.getfield 125, 3) := by decide +kernel
theorem dX12_asked_94 : decode cX12_asked 94 = .ok (.ifCond .eq 10, 3) := by decide +kernel
theorem dX12_asked_97 : decode cX12_asked 97 = .ok (.aload_n 0, 1) := by decide +kernel
theorem dX12_asked_98 : decode cX12_asked 98 = .ok (.bipush 10, 2) := by decide +kernel
theorem dX12_asked_100 : decode cX12_asked 100 = .ok (.iconst 0, 1) := by decide +kernel
theorem dX12_asked_101 : decode cX12_asked 101 = .ok (.invokevirtual 313, 3) := by decide +kernel
theorem dX12_asked_104 : decode cX12_asked 104 = .ok (.goto 251, 3) := by decide +kernel
theorem dX12_asked_107 : decode cX12_asked 107 = .ok (.iload_n 1, 1) := by decide +kernel
theorem dX12_asked_108 : decode cX12_asked 108 = .ok (.bipush 101, 2) := by decide +kernel
theorem dX12_asked_110 : decode cX12_asked 110 = .ok (.if_icmp .ne 101, 3) := by decide +kernel
theorem dX12_asked_113 : decode cX12_asked 113 = .ok (.iload_n 3, 1) := by decide +kernel
theorem dX12_asked_114 : decode cX12_asked 114 = .ok (.bipush 63, 2) := by decide +kernel
theorem dX12_asked_116 : decode cX12_asked 116 = .ok (.iand, 1) := by decide +kernel
theorem dX12_asked_117 : decode cX12_asked 117 = .ok (.iconst 5, 1) := by decide +kernel
theorem dX12_asked_118 : decode cX12_asked 118 = .ok (.if_icmp .ne 7, 3) := by decide +kernel
theorem dX12_asked_121 : decode cX12_asked 121 = .ok (.iconst 1, 1) := by decide +kernel
theorem dX12_asked_122 : decode cX12_asked 122 = .ok (.goto 4, 3) := by decide +kernel
theorem dX12_asked_125 : decode cX12_asked 125 = .ok (.iconst 0, 1) := by decide +kernel
theorem dX12_asked_126 : decode cX12_asked 126 = .ok (.istore 4, 2) := by decide +kernel
theorem dX12_asked_128 : decode cX12_asked 128 = .ok (.aload_n 0, 1) := by decide +kernel
theorem dX12_asked_129 : decode cX12_asked 129 = .ok (.bipush 7, 2) := by decide +kernel
theorem dX12_asked_131 : decode cX12_asked 131 = .ok (.iload 4, 2) := by decide +kernel
theorem dX12_asked_133 : decode cX12_asked 133 = .ok (.ifCond .ne 7, 3) := by decide +kernel
theorem dX12_asked_136 : decode cX12_asked 136 = .ok (.iconst 1, 1) := by decide +kernel
theorem dX12_asked_137 : decode cX12_asked 137 = .ok (.goto 4, 3) := by decide +kernel
theorem dX12_asked_140 : decode cX12_asked 140 = .ok (.iconst 0, 1) := by decide +kernel
theorem dX12_asked_141 : decode cX12_asked 141 = .ok (.invokevirtual 313, 3) := by decide +kernel
theorem dX12_asked_144 : decode cX12_asked 144 = .ok (.iload 4, 2) := by decide +kernel
theorem dX12_asked_146 : decode cX12_asked 146 = .ok (.ifCond .eq 43, 3) := by decide +kernel
theorem dX12_asked_149 : decode cX12_asked 149 = .ok (.aload_n 0, 1) := by decide +kernel
theorem dX12_asked_150 : decode cX12_asked 150 = .ok (.invokevirtual 330, 3) := by decide +kernel
theorem dX12_asked_153 : decode cX12_asked 153 = .ok (.ifCond .ne 36, 3) := by decide +kernel
theorem dX12_asked_156 : decode cX12_asked 156 = .ok (.aload_n 0, 1) := by decide +kernel
theorem dX12_asked_157 : decode cX12_asked 157 = .ok (.getfield 125, 3) := by decide +kernel
theorem dX12_asked_160 : decode cX12_asked 160 = .ok (.ifCond .eq 29, 3) := by decide +kernel
theorem dX12_asked_163 : decode cX12_asked 163 = .ok (.iload_n 3, 1) := by decide +kernel
theorem dX12_asked_164 : decode cX12_asked 164 = .ok (.bipush 6, 2) := by decide +kernel
theorem dX12_asked_166 : decode cX12_asked 166 = .ok (.ishr, 1) := by decide +kernel
theorem dX12_asked_167 : decode cX12_asked 167 = .ok (.ifCond .ne 14, 3) := by decide +kernel
theorem dX12_asked_170 : decode cX12_asked 170 = .ok (.aload_n 0, 1) := by decide +kernel
theorem dX12_asked_171 : decode cX12_asked 171 = .ok (.iconst 0, 1) := by decide +kernel
theorem dX12_asked_172 : decode cX12_asked 172 = .ok (.iconst 1, 1) := by decide +kernel
theorem dX12_asked_173 : decode cX12_asked 173 = .ok (.bipush 37, 2) := by decide +kernel
theorem dX12_asked_175 : decode cX12_asked 175 = .ok (.invokevirtual 352, 3) := by decide +kernel
theorem dX12_asked_178 : decode cX12_asked 178 = .ok (.goto 11, 3) := by decide +kernel
theorem dX12_asked_181 : decode cX12_asked 181 = .ok (.aload_n 0, 1) := by decide +kernel
theorem dX12_asked_182 : decode cX12_asked 182 = .ok (.iload_n 3, 1) := by decide +kernel
theorem dX12_asked_183 : decode cX12_asked 183 = .ok (.bipush 6, 2) := by decide +kernel
theorem dX12_asked_185 : decode cX12_asked 185 = .ok (.ishr, 1) := by decide +kernel
theorem dX12_asked_186 : decode cX12_asked 186 = .ok (.invokevirtual 356, 3) := by decide +kernel
theorem dX12_asked_189 : decode cX12_asked 189 = .ok (.iload 4, 2) := by decide +kernel
theorem dX12_asked_191 : decode cX12_asked 191 = .ok (.ifCond .eq 17, 3) := by decide +kernel
theorem dX12_asked_194 : decode cX12_asked 194 = .ok (.aload_n 0, 1) := by decide +kernel
theorem dX12_asked_195 : decode cX12_asked 195 = .ok (.getfield 125, 3) := by decide +kernel
theorem dX12_asked_198 : decode cX12_asked 198 = .ok (.ifCond .eq 10, 3) := by decide +kernel
theorem dX12_asked_201 : decode cX12_asked 201 = .ok (.aload_n 0, 1) := by decide +kernel
theorem dX12_asked_202 : decode cX12_asked 202 = .ok (.bipush 10, 2) := by decide +kernel
theorem dX12_asked_204 : decode cX12_asked 204 = .ok (.iconst 0, 1) := by decide +kernel
theorem dX12_asked_205 : decode cX12_asked 205 = .ok (.invokevirtual 313, 3) := by decide +kernel
theorem dX12_asked_208 : decode cX12_asked 208 = .ok (.goto 147, 3) := by decide +kernel
theorem dX12_asked_211 : decode cX12_asked 211 = .ok (.iload_n 1, 1) := by decide +kernel
theorem dX12_asked_212 : decode cX12_asked 212 = .ok (.bipush 103, 2) := by decide +kernel
theorem dX12_asked_214 : decode cX12_asked 214 = .ok (.if_icmp .ne 107, 3) := by decide +kernel
theorem dX12_asked_217 : decode cX12_asked 217 = .ok (.aload_n 0, 1) := by decide +kernel
theorem dX12_asked_218 : decode cX12_asked 218 = .ok (.invokevirtual 358, 3) := by decide +kernel
theorem dX12_asked_221 : decode cX12_asked 221 = .ok (.istore 4, 2) := by decide +kernel
theorem dX12_asked_223 : decode cX12_asked 223 = .ok (.aload_n 0, 1) := by decide +kernel
theorem dX12_asked_224 : decode cX12_asked 224 = .ok (.bipush 7, 2) := by decide +kernel
theorem dX12_asked_226 : decode cX12_asked 226 = .ok (.iload 4, 2) := by decide +kernel
theorem dX12_asked_228 : decode cX12_asked 228 = .ok (.ifCond .ne 7, 3) := by decide +kernel
theorem dX12_asked_231 : decode cX12_asked 231 = .ok (.iconst 1, 1) := by decide +kernel
theorem dX12_asked_232 : decode cX12_asked 232 = .ok (.goto 4, 3) := by decide +kernel
theorem dX12_asked_235 : decode cX12_asked 235 = .ok (.iconst 0, 1) := by decide +kernel
theorem dX12_asked_236 : decode cX12_asked 236 = .ok (.invokevirtual 313, 3) := by decide +kernel
theorem dX12_asked_239 : decode cX12_asked 239 = .ok (.iload 4, 2) := by decide +kernel
theorem dX12_asked_241 : decode cX12_asked 241 = .ok (.ifCond .eq 77, 3) := by decide +kernel
theorem dX12_asked_244 : decode cX12_asked 244 = .ok (.aload_n 0, 1) := by decide +kernel
theorem dX12_asked_245 : decode cX12_asked 245 = .ok (.invokevirtual 330, 3) := by decide +kernel
theorem dX12_asked_248 : decode cX12_asked 248 = .ok (.ifCond .ne 70, 3) := by decide +kernel
theorem dX12_asked_251 : decode cX12_asked 251 = .ok (.aload_n 0, 1) := by decide +kernel
theorem dX12_asked_252 : decode cX12_asked 252 = .ok (.getfield 125, 3) := by decide +kernel
theorem dX12_asked_255 : decode cX12_asked 255 = .ok (.ifCond .eq 63, 3) := by decide +kernel
theorem dX12_asked_258 : decode cX12_asked 258 = .ok (.aload_n 0, 1) := by decide +kernel
theorem dX12_asked_259 : decode cX12_asked 259 = .ok (.getfield 57, 3) := by decide +kernel
theorem dX12_asked_262 : decode cX12_asked 262 = .ok (.iconst 0, 1) := by decide +kernel
theorem dX12_asked_263 : decode cX12_asked 263 = .ok (.aload_n 0, 1) := by decide +kernel
theorem dX12_asked_264 : decode cX12_asked 264 = .ok (.bipush 9, 2) := by decide +kernel
theorem dX12_asked_266 : decode cX12_asked 266 = .ok (.invokevirtual 296, 3) := by decide +kernel
theorem dX12_asked_269 : decode cX12_asked 269 = .ok (.sipush 256, 3) := by decide +kernel
theorem dX12_asked_272 : decode cX12_asked 272 = .ok (.aload_n 0, 1) := by decide +kernel
theorem dX12_asked_273 : decode cX12_asked 273 = .ok (.bipush 10, 2) := by decide +kernel
theorem dX12_asked_275 : decode cX12_asked 275 = .ok (.invokevirtual 296, 3) := by decide +kernel
theorem dX12_asked_278 : decode cX12_asked 278 = .ok (.imul, 1) := by decide +kernel
theorem dX12_asked_279 : decode cX12_asked 279 = .ok (.iadd, 1) := by decide +kernel
theorem dX12_asked_280 : decode cX12_asked 280 = .ok (.iastore, 1) := by decide +kernel
theorem dX12_asked_281 : decode cX12_asked 281 = .ok (.iconst 1, 1) := by decide +kernel
theorem dX12_asked_282 : decode cX12_asked 282 = .ok (.istore 5, 2) := by decide +kernel
theorem dX12_asked_284 : decode cX12_asked 284 = .ok (.iload 5, 2) := by decide +kernel
theorem dX12_asked_286 : decode cX12_asked 286 = .ok (.bipush 6, 2) := by decide +kernel
theorem dX12_asked_288 : decode cX12_asked 288 = .ok (.if_icmp .ge 25, 3) := by decide +kernel
theorem dX12_asked_291 : decode cX12_asked 291 = .ok (.aload_n 0, 1) := by decide +kernel
theorem dX12_asked_292 : decode cX12_asked 292 = .ok (.getfield 57, 3) := by decide +kernel
theorem dX12_asked_295 : decode cX12_asked 295 = .ok (.iload 5, 2) := by decide +kernel
theorem dX12_asked_297 : decode cX12_asked 297 = .ok (.aload_n 0, 1) := by decide +kernel
theorem dX12_asked_298 : decode cX12_asked 298 = .ok (.bipush 10, 2) := by decide +kernel
theorem dX12_asked_300 : decode cX12_asked 300 = .ok (.iload 5, 2) := by decide +kernel
theorem dX12_asked_302 : decode cX12_asked 302 = .ok (.iadd, 1) := by decide +kernel
theorem dX12_asked_303 : decode cX12_asked 303 = .ok (.invokevirtual 296, 3) := by decide +kernel
theorem dX12_asked_306 : decode cX12_asked 306 = .ok (.iastore, 1) := by decide +kernel
theorem dX12_asked_307 : decode cX12_asked 307 = .ok (.iinc 5 1, 3) := by decide +kernel
theorem dX12_asked_310 : decode cX12_asked 310 = .ok (.goto (-26), 3) := by decide +kernel
theorem dX12_asked_313 : decode cX12_asked 313 = .ok (.aload_n 0, 1) := by decide +kernel
theorem dX12_asked_314 : decode cX12_asked 314 = .ok (.iconst 1, 1) := by decide +kernel
theorem dX12_asked_315 : decode cX12_asked 315 = .ok (.putfield 168, 3) := by decide +kernel
theorem dX12_asked_318 : decode cX12_asked 318 = .ok (.goto 37, 3) := by decide +kernel
theorem dX12_asked_321 : decode cX12_asked 321 = .ok (.aload_n 0, 1) := by decide +kernel
theorem dX12_asked_322 : decode cX12_asked 322 = .ok (.bipush 7, 2) := by decide +kernel
theorem dX12_asked_324 : decode cX12_asked 324 = .ok (.aload_n 0, 1) := by decide +kernel
theorem dX12_asked_325 : decode cX12_asked 325 = .ok (.bipush 9, 2) := by decide +kernel
theorem dX12_asked_327 : decode cX12_asked 327 = .ok (.invokevirtual 296, 3) := by decide +kernel
theorem dX12_asked_330 : decode cX12_asked 330 = .ok (.sipush 170, 3) := by decide +kernel
theorem dX12_asked_333 : decode cX12_asked 333 = .ok (.if_icmp .ne 14, 3) := by decide +kernel
theorem dX12_asked_336 : decode cX12_asked 336 = .ok (.aload_n 0, 1) := by decide +kernel
theorem dX12_asked_337 : decode cX12_asked 337 = .ok (.bipush 10, 2) := by decide +kernel
theorem dX12_asked_339 : decode cX12_asked 339 = .ok (.invokevirtual 296, 3) := by decide +kernel
theorem dX12_asked_342 : decode cX12_asked 342 = .ok (.bipush 85, 2) := by decide +kernel
theorem dX12_asked_344 : decode cX12_asked 344 = .ok (.if_icmp .eq 7, 3) := by decide +kernel
theorem dX12_asked_347 : decode cX12_asked 347 = .ok (.iconst 1, 1) := by decide +kernel
theorem dX12_asked_348 : decode cX12_asked 348 = .ok (.goto 4, 3) := by decide +kernel
theorem dX12_asked_351 : decode cX12_asked 351 = .ok (.iconst 0, 1) := by decide +kernel
theorem dX12_asked_352 : decode cX12_asked 352 = .ok (.invokevirtual 313, 3) := by decide +kernel
theorem dX12_asked_355 : decode cX12_asked 355 = .ok (.return_, 1) := by decide +kernel
theorem dX12_daysOf_0 : decode cX12_daysOf 0 = .ok (.iload_n 0, 1) := by decide +kernel
theorem dX12_daysOf_1 : decode cX12_daysOf 1 = .ok (.iconst 2, 1) := by decide +kernel
theorem dX12_daysOf_2 : decode cX12_daysOf 2 = .ok (.if_icmp .ne 19, 3) := by decide +kernel
theorem dX12_daysOf_5 : decode cX12_daysOf 5 = .ok (.iload_n 1, 1) := by decide +kernel
theorem dX12_daysOf_6 : decode cX12_daysOf 6 = .ok (.iconst 4, 1) := by decide +kernel
theorem dX12_daysOf_7 : decode cX12_daysOf 7 = .ok (.irem, 1) := by decide +kernel
theorem dX12_daysOf_8 : decode cX12_daysOf 8 = .ok (.ifCond .ne 8, 3) := by decide +kernel
theorem dX12_daysOf_11 : decode cX12_daysOf 11 = .ok (.bipush 29, 2) := by decide +kernel
theorem dX12_daysOf_13 : decode cX12_daysOf 13 = .ok (.goto 38, 3) := by decide +kernel
theorem dX12_daysOf_16 : decode cX12_daysOf 16 = .ok (.bipush 28, 2) := by decide +kernel
theorem dX12_daysOf_18 : decode cX12_daysOf 18 = .ok (.goto 33, 3) := by decide +kernel
theorem dX12_daysOf_21 : decode cX12_daysOf 21 = .ok (.iload_n 0, 1) := by decide +kernel
theorem dX12_daysOf_22 : decode cX12_daysOf 22 = .ok (.iconst 4, 1) := by decide +kernel
theorem dX12_daysOf_23 : decode cX12_daysOf 23 = .ok (.if_icmp .eq 21, 3) := by decide +kernel
theorem dX12_daysOf_26 : decode cX12_daysOf 26 = .ok (.iload_n 0, 1) := by decide +kernel
theorem dX12_daysOf_27 : decode cX12_daysOf 27 = .ok (.bipush 6, 2) := by decide +kernel
theorem dX12_daysOf_29 : decode cX12_daysOf 29 = .ok (.if_icmp .eq 15, 3) := by decide +kernel
theorem dX12_daysOf_32 : decode cX12_daysOf 32 = .ok (.iload_n 0, 1) := by decide +kernel
theorem dX12_daysOf_33 : decode cX12_daysOf 33 = .ok (.bipush 9, 2) := by decide +kernel
theorem dX12_daysOf_35 : decode cX12_daysOf 35 = .ok (.if_icmp .eq 9, 3) := by decide +kernel
theorem dX12_daysOf_38 : decode cX12_daysOf 38 = .ok (.iload_n 0, 1) := by decide +kernel
theorem dX12_daysOf_39 : decode cX12_daysOf 39 = .ok (.bipush 11, 2) := by decide +kernel
theorem dX12_daysOf_41 : decode cX12_daysOf 41 = .ok (.if_icmp .ne 8, 3) := by decide +kernel
theorem dX12_daysOf_44 : decode cX12_daysOf 44 = .ok (.bipush 30, 2) := by decide +kernel
theorem dX12_daysOf_46 : decode cX12_daysOf 46 = .ok (.goto 5, 3) := by decide +kernel
theorem dX12_daysOf_49 : decode cX12_daysOf 49 = .ok (.bipush 31, 2) := by decide +kernel
theorem dX12_daysOf_51 : decode cX12_daysOf 51 = .ok (.ireturn, 1) := by decide +kernel
theorem dX12_isTime_0 : decode cX12_isTime 0 = .ok (.aload_n 0, 1) := by decide +kernel
theorem dX12_isTime_1 : decode cX12_isTime 1 = .ok (.bipush 14, 2) := by decide +kernel
theorem dX12_isTime_3 : decode cX12_isTime 3 = .ok (.invokevirtual 296, 3) := by decide +kernel
theorem dX12_isTime_6 : decode cX12_isTime 6 = .ok (.istore_n 1, 1) := by decide +kernel
theorem dX12_isTime_7 : decode cX12_isTime 7 = .ok (.aload_n 0, 1) := by decide +kernel
theorem dX12_isTime_8 : decode cX12_isTime 8 = .ok (.bipush 15, 2) := by decide +kernel
theorem dX12_isTime_10 : decode cX12_isTime 10 = .ok (.invokevirtual 296, 3) := by decide +kernel
theorem dX12_isTime_13 : decode cX12_isTime 13 = .ok (.istore_n 2, 1) := by decide +kernel
theorem dX12_isTime_14 : decode cX12_isTime 14 = .ok (.aload_n 0, 1) := by decide +kernel
theorem dX12_isTime_15 : decode cX12_isTime 15 = .ok (.bipush 9, 2) := by decide +kernel
theorem dX12_isTime_17 : decode cX12_isTime 17 = .ok (.invokevirtual 296, 3) := by decide +kernel
theorem dX12_isTime_20 : decode cX12_isTime 20 = .ok (.sipush 256, 3) := by decide +kernel
theorem dX12_isTime_23 : decode cX12_isTime 23 = .ok (.aload_n 0, 1) := by decide +kernel
theorem dX12_isTime_24 : decode cX12_isTime 24 = .ok (.bipush 10, 2) := by decide +kernel
theorem dX12_isTime_26 : decode cX12_isTime 26 = .ok (.invokevirtual 296, 3) := by decide +kernel
theorem dX12_isTime_29 : decode cX12_isTime 29 = .ok (.imul, 1) := by decide +kernel
theorem dX12_isTime_30 : decode cX12_isTime 30 = .ok (.iadd, 1) := by decide +kernel
theorem dX12_isTime_31 : decode cX12_isTime 31 = .ok (.ldc_w 361, 3) := by decide +kernel
theorem dX12_isTime_34 : decode cX12_isTime 34 = .ok (.if_icmp .ge 67, 3) := by decide +kernel
theorem dX12_isTime_37 : decode cX12_isTime 37 = .ok (.aload_n 0, 1) := by decide +kernel
theorem dX12_isTime_38 : decode cX12_isTime 38 = .ok (.bipush 11, 2) := by decide +kernel
theorem dX12_isTime_40 : decode cX12_isTime 40 = .ok (.invokevirtual 296, 3) := by decide +kernel
theorem dX12_isTime_43 : decode cX12_isTime 43 = .ok (.bipush 60, 2) := by decide +kernel
theorem dX12_isTime_45 : decode cX12_isTime 45 = .ok (.if_icmp .ge 56, 3) := by decide +kernel
theorem dX12_isTime_48 : decode cX12_isTime 48 = .ok (.aload_n 0, 1) := by decide +kernel
theorem dX12_isTime_49 : decode cX12_isTime 49 = .ok (.bipush 12, 2) := by decide +kernel
theorem dX12_isTime_51 : decode cX12_isTime 51 = .ok (.invokevirtual 296, 3) := by decide +kernel
theorem dX12_isTime_54 : decode cX12_isTime 54 = .ok (.bipush 24, 2) := by decide +kernel
theorem dX12_isTime_56 : decode cX12_isTime 56 = .ok (.if_icmp .ge 45, 3) := by decide +kernel
theorem dX12_isTime_59 : decode cX12_isTime 59 = .ok (.iload_n 1, 1) := by decide +kernel
theorem dX12_isTime_60 : decode cX12_isTime 60 = .ok (.i2l, 1) := by decide +kernel
theorem dX12_isTime_61 : decode cX12_isTime 61 = .ok (.lconst 1, 1) := by decide +kernel
theorem dX12_isTime_62 : decode cX12_isTime 62 = .ok (.ldc2_w 117, 3) := by decide +kernel
theorem dX12_isTime_65 : decode cX12_isTime 65 = .ok (.invokestatic 111, 3) := by decide +kernel
theorem dX12_isTime_68 : decode cX12_isTime 68 = .ok (.ifCond .eq 33, 3) := by decide +kernel
theorem dX12_isTime_71 : decode cX12_isTime 71 = .ok (.iload_n 2, 1) := by decide +kernel
theorem dX12_isTime_72 : decode cX12_isTime 72 = .ok (.bipush 100, 2) := by decide +kernel
theorem dX12_isTime_74 : decode cX12_isTime 74 = .ok (.if_icmp .ge 27, 3) := by decide +kernel
theorem dX12_isTime_77 : decode cX12_isTime 77 = .ok (.aload_n 0, 1) := by decide +kernel
theorem dX12_isTime_78 : decode cX12_isTime 78 = .ok (.bipush 13, 2) := by decide +kernel
theorem dX12_isTime_80 : decode cX12_isTime 80 = .ok (.invokevirtual 296, 3) := by decide +kernel
theorem dX12_isTime_83 : decode cX12_isTime 83 = .ok (.i2l, 1) := by decide +kernel
theorem dX12_isTime_84 : decode cX12_isTime 84 = .ok (.lconst 1, 1) := by decide +kernel
theorem dX12_isTime_85 : decode cX12_isTime 85 = .ok (.iload_n 1, 1) := by decide +kernel
theorem dX12_isTime_86 : decode cX12_isTime 86 = .ok (.iload_n 2, 1) := by decide +kernel
theorem dX12_isTime_87 : decode cX12_isTime 87 = .ok (.invokestatic 362, 3) := by decide +kernel
theorem dX12_isTime_90 : decode cX12_isTime 90 = .ok (.i2l, 1) := by decide +kernel
theorem dX12_isTime_91 : decode cX12_isTime 91 = .ok (.invokestatic 111, 3) := by decide +kernel
theorem dX12_isTime_94 : decode cX12_isTime 94 = .ok (.ifCond .eq 7, 3) := by decide +kernel
theorem dX12_isTime_97 : decode cX12_isTime 97 = .ok (.iconst 1, 1) := by decide +kernel
theorem dX12_isTime_98 : decode cX12_isTime 98 = .ok (.goto 4, 3) := by decide +kernel
theorem dX12_isTime_101 : decode cX12_isTime 101 = .ok (.iconst 0, 1) := by decide +kernel
theorem dX12_isTime_102 : decode cX12_isTime 102 = .ok (.ireturn, 1) := by decide +kernel
theorem dX12_clockGoes_0 : decode cX12_clockGoes 0 = .ok (.aload_n 0, 1) := by decide +kernel
theorem dX12_clockGoes_1 : decode cX12_clockGoes 1 = .ok (.getfield 57, 3) := by decide +kernel
theorem dX12_clockGoes_4 : decode cX12_clockGoes 4 = .ok (.iconst 0, 1) := by decide +kernel
theorem dX12_clockGoes_5 : decode cX12_clockGoes 5 = .ok (.dup2, 1) := by decide +kernel
theorem dX12_clockGoes_6 : decode cX12_clockGoes 6 = .ok (.iaload, 1) := by decide +kernel
theorem dX12_clockGoes_7 : decode cX12_clockGoes 7 = .ok (.bipush 100, 2) := by decide +kernel
theorem dX12_clockGoes_9 : decode cX12_clockGoes 9 = .ok (.iadd, 1) := by decide +kernel
theorem dX12_clockGoes_10 : decode cX12_clockGoes 10 = .ok (.iastore, 1) := by decide +kernel
theorem dX12_clockGoes_11 : decode cX12_clockGoes 11 = .ok (.aload_n 0, 1) := by decide +kernel
theorem dX12_clockGoes_12 : decode cX12_clockGoes 12 = .ok (.getfield 57, 3) := by decide +kernel
theorem dX12_clockGoes_15 : decode cX12_clockGoes 15 = .ok (.iconst 0, 1) := by decide +kernel
theorem dX12_clockGoes_16 : decode cX12_clockGoes 16 = .ok (.iaload, 1) := by decide +kernel
theorem dX12_clockGoes_17 : decode cX12_clockGoes 17 = .ok (.ldc_w 361, 3) := by decide +kernel
theorem dX12_clockGoes_20 : decode cX12_clockGoes 20 = .ok (.if_icmp .ge 4, 3) := by decide +kernel
theorem dX12_clockGoes_23 : decode cX12_clockGoes 23 = .ok (.return_, 1) := by decide +kernel
theorem dX12_clockGoes_24 : decode cX12_clockGoes 24 = .ok (.aload_n 0, 1) := by decide +kernel
