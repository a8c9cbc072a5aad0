theorem dX0_init_0 : decode cX0_init 0 = .ok (.aload_n 0, 1) := by decide +kernel
theorem dX0_init_1 : decode cX0_init 1 = .ok (.invokespecial 3, 3) := by decide +kernel
theorem dX0_init_4 : decode cX0_init 4 = .ok (.aload_n 0, 1) := by decide +kernel
theorem dX0_init_5 : decode cX0_init 5 = .ok (.bipush 60, 2) := by decide +kernel
theorem dX0_init_7 : decode cX0_init 7 = .ok (.anewarray 9, 3) := by decide +kernel
theorem dX0_init_10 : decode cX0_init 10 = .ok (.putfield 11, 3) := by decide +kernel
theorem dX0_init_13 : decode cX0_init 13 = .ok (.aload_n 0, 1) := by decide +kernel
theorem dX0_init_14 : decode cX0_init 14 = .ok (.new 9, 3) := by decide +kernel
theorem dX0_init_17 : decode cX0_init 17 = .ok (.dup, 1) := by decide +kernel
theorem dX0_init_18 : decode cX0_init 18 = .ok (.invokespecial 17, 3) := by decide +kernel
theorem dX0_init_21 : decode cX0_init 21 = .ok (.putfield 18, 3) := by decide +kernel
theorem dX0_init_24 : decode cX0_init 24 = .ok (.return_, 1) := by decide +kernel
theorem dX0_clear_0 : decode cX0_clear 0 = .ok (.aload_n 0, 1) := by decide +kernel
theorem dX0_clear_1 : decode cX0_clear 1 = .ok (.iconst 0, 1) := by decide +kernel
theorem dX0_clear_2 : decode cX0_clear 2 = .ok (.putfield 22, 3) := by decide +kernel
theorem dX0_clear_5 : decode cX0_clear 5 = .ok (.aload_n 0, 1) := by decide +kernel
theorem dX0_clear_6 : decode cX0_clear 6 = .ok (.iconst 0, 1) := by decide +kernel
theorem dX0_clear_7 : decode cX0_clear 7 = .ok (.putfield 26, 3) := by decide +kernel
theorem dX0_clear_10 : decode cX0_clear 10 = .ok (.aload_n 0, 1) := by decide +kernel
theorem dX0_clear_11 : decode cX0_clear 11 = .ok (.iconst 0, 1) := by decide +kernel
theorem dX0_clear_12 : decode cX0_clear 12 = .ok (.putfield 29, 3) := by decide +kernel
theorem dX0_clear_15 : decode cX0_clear 15 = .ok (.return_, 1) := by decide +kernel
theorem dX0_next_0 : decode cX0_next 0 = .ok (.aload_n 0, 1) := by decide +kernel
theorem dX0_next_1 : decode cX0_next 1 = .ok (.getfield 26, 3) := by decide +kernel
theorem dX0_next_4 : decode cX0_next 4 = .ok (.ifCond .lt 12, 3) := by decide +kernel
theorem dX0_next_7 : decode cX0_next 7 = .ok (.aload_n 0, 1) := by decide +kernel
theorem dX0_next_8 : decode cX0_next 8 = .ok (.getfield 26, 3) := by decide +kernel
theorem dX0_next_11 : decode cX0_next 11 = .ok (.bipush 60, 2) := by decide +kernel
theorem dX0_next_13 : decode cX0_next 13 = .ok (.if_icmp .lt 20, 3) := by decide +kernel
theorem dX0_next_16 : decode cX0_next 16 = .ok (.aload_n 0, 1) := by decide +kernel
theorem dX0_next_17 : decode cX0_next 17 = .ok (.iconst 1, 1) := by decide +kernel
theorem dX0_next_18 : decode cX0_next 18 = .ok (.putfield 29, 3) := by decide +kernel
theorem dX0_next_21 : decode cX0_next 21 = .ok (.aload_n 0, 1) := by decide +kernel
theorem dX0_next_22 : decode cX0_next 22 = .ok (.getfield 18, 3) := by decide +kernel
theorem dX0_next_25 : decode cX0_next 25 = .ok (.invokevirtual 33, 3) := by decide +kernel
theorem dX0_next_28 : decode cX0_next 28 = .ok (.aload_n 0, 1) := by decide +kernel
theorem dX0_next_29 : decode cX0_next 29 = .ok (.getfield 18, 3) := by decide +kernel
theorem dX0_next_32 : decode cX0_next 32 = .ok (.areturn, 1) := by decide +kernel
theorem dX0_next_33 : decode cX0_next 33 = .ok (.aload_n 0, 1) := by decide +kernel
theorem dX0_next_34 : decode cX0_next 34 = .ok (.getfield 22, 3) := by decide +kernel
theorem dX0_next_37 : decode cX0_next 37 = .ok (.aload_n 0, 1) := by decide +kernel
theorem dX0_next_38 : decode cX0_next 38 = .ok (.getfield 26, 3) := by decide +kernel
theorem dX0_next_41 : decode cX0_next 41 = .ok (.iadd, 1) := by decide +kernel
theorem dX0_next_42 : decode cX0_next 42 = .ok (.bipush 60, 2) := by decide +kernel
theorem dX0_next_44 : decode cX0_next 44 = .ok (.irem, 1) := by decide +kernel
theorem dX0_next_45 : decode cX0_next 45 = .ok (.istore_n 1, 1) := by decide +kernel
theorem dX0_next_46 : decode cX0_next 46 = .ok (.aload_n 0, 1) := by decide +kernel
theorem dX0_next_47 : decode cX0_next 47 = .ok (.getfield 11, 3) := by decide +kernel
theorem dX0_next_50 : decode cX0_next 50 = .ok (.iload_n 1, 1) := by decide +kernel
theorem dX0_next_51 : decode cX0_next 51 = .ok (.aaload, 1) := by decide +kernel
theorem dX0_next_52 : decode cX0_next 52 = .ok (.ifnonnull 16, 3) := by decide +kernel
theorem dX0_next_55 : decode cX0_next 55 = .ok (.aload_n 0, 1) := by decide +kernel
theorem dX0_next_56 : decode cX0_next 56 = .ok (.getfield 11, 3) := by decide +kernel
theorem dX0_next_59 : decode cX0_next 59 = .ok (.iload_n 1, 1) := by decide +kernel
theorem dX0_next_60 : decode cX0_next 60 = .ok (.new 9, 3) := by decide +kernel
theorem dX0_next_63 : decode cX0_next 63 = .ok (.dup, 1) := by decide +kernel
theorem dX0_next_64 : decode cX0_next 64 = .ok (.invokespecial 17, 3) := by decide +kernel
theorem dX0_next_67 : decode cX0_next 67 = .ok (.aastore, 1) := by decide +kernel
theorem dX0_next_68 : decode cX0_next 68 = .ok (.aload_n 0, 1) := by decide +kernel
theorem dX0_next_69 : decode cX0_next 69 = .ok (.dup, 1) := by decide +kernel
theorem dX0_next_70 : decode cX0_next 70 = .ok (.getfield 26, 3) := by decide +kernel
theorem dX0_next_73 : decode cX0_next 73 = .ok (.iconst 1, 1) := by decide +kernel
theorem dX0_next_74 : decode cX0_next 74 = .ok (.iadd, 1) := by decide +kernel
theorem dX0_next_75 : decode cX0_next 75 = .ok (.putfield 26, 3) := by decide +kernel
theorem dX0_next_78 : decode cX0_next 78 = .ok (.aload_n 0, 1) := by decide +kernel
theorem dX0_next_79 : decode cX0_next 79 = .ok (.getfield 11, 3) := by decide +kernel
theorem dX0_next_82 : decode cX0_next 82 = .ok (.iload_n 1, 1) := by decide +kernel
theorem dX0_next_83 : decode cX0_next 83 = .ok (.aaload, 1) := by decide +kernel
theorem dX0_next_84 : decode cX0_next 84 = .ok (.invokevirtual 33, 3) := by decide +kernel
theorem dX0_next_87 : decode cX0_next 87 = .ok (.aload_n 0, 1) := by decide +kernel
theorem dX0_next_88 : decode cX0_next 88 = .ok (.getfield 11, 3) := by decide +kernel
theorem dX0_next_91 : decode cX0_next 91 = .ok (.iload_n 1, 1) := by decide +kernel
theorem dX0_next_92 : decode cX0_next 92 = .ok (.aaload, 1) := by decide +kernel
theorem dX0_next_93 : decode cX0_next 93 = .ok (.areturn, 1) := by decide +kernel
theorem dX0_first_0 : decode cX0_first 0 = .ok (.aload_n 0, 1) := by decide +kernel
theorem dX0_first_1 : decode cX0_first 1 = .ok (.getfield 26, 3) := by decide +kernel
theorem dX0_first_4 : decode cX0_first 4 = .ok (.ifCond .le 15, 3) := by decide +kernel
theorem dX0_first_7 : decode cX0_first 7 = .ok (.aload_n 0, 1) := by decide +kernel
theorem dX0_first_8 : decode cX0_first 8 = .ok (.getfield 11, 3) := by decide +kernel
theorem dX0_first_11 : decode cX0_first 11 = .ok (.aload_n 0, 1) := by decide +kernel
theorem dX0_first_12 : decode cX0_first 12 = .ok (.getfield 22, 3) := by decide +kernel
theorem dX0_first_15 : decode cX0_first 15 = .ok (.aaload, 1) := by decide +kernel
theorem dX0_first_16 : decode cX0_first 16 = .ok (.ifnonnull 10, 3) := by decide +kernel
theorem dX0_first_19 : decode cX0_first 19 = .ok (.aload_n 0, 1) := by decide +kernel
theorem dX0_first_20 : decode cX0_first 20 = .ok (.getfield 18, 3) := by decide +kernel
theorem dX0_first_23 : decode cX0_first 23 = .ok (.goto 12, 3) := by decide +kernel
theorem dX0_first_26 : decode cX0_first 26 = .ok (.aload_n 0, 1) := by decide +kernel
theorem dX0_first_27 : decode cX0_first 27 = .ok (.getfield 11, 3) := by decide +kernel
theorem dX0_first_30 : decode cX0_first 30 = .ok (.aload_n 0, 1) := by decide +kernel
theorem dX0_first_31 : decode cX0_first 31 = .ok (.getfield 22, 3) := by decide +kernel
theorem dX0_first_34 : decode cX0_first 34 = .ok (.aaload, 1) := by decide +kernel
theorem dX0_first_35 : decode cX0_first 35 = .ok (.areturn, 1) := by decide +kernel
theorem dX0_dropFirst_0 : decode cX0_dropFirst 0 = .ok (.aload_n 0, 1) := by decide +kernel
theorem dX0_dropFirst_1 : decode cX0_dropFirst 1 = .ok (.dup, 1) := by decide +kernel
theorem dX0_dropFirst_2 : decode cX0_dropFirst 2 = .ok (.getfield 26, 3) := by decide +kernel
theorem dX0_dropFirst_5 : decode cX0_dropFirst 5 = .ok (.iconst 1, 1) := by decide +kernel
theorem dX0_dropFirst_6 : decode cX0_dropFirst 6 = .ok (.isub, 1) := by decide +kernel
theorem dX0_dropFirst_7 : decode cX0_dropFirst 7 = .ok (.putfield 26, 3) := by decide +kernel
theorem dX0_dropFirst_10 : decode cX0_dropFirst 10 = .ok (.aload_n 0, 1) := by decide +kernel
theorem dX0_dropFirst_11 : decode cX0_dropFirst 11 = .ok (.aload_n 0, 1) := by decide +kernel
theorem dX0_dropFirst_12 : decode cX0_dropFirst 12 = .ok (.getfield 26, 3) := by decide +kernel
theorem dX0_dropFirst_15 : decode cX0_dropFirst 15 = .ok (.ifCond .gt 7, 3) := by decide +kernel
theorem dX0_dropFirst_18 : decode cX0_dropFirst 18 = .ok (.iconst 0, 1) := by decide +kernel
theorem dX0_dropFirst_19 : decode cX0_dropFirst 19 = .ok (.goto 12, 3) := by decide +kernel
theorem dX0_dropFirst_22 : decode cX0_dropFirst 22 = .ok (.aload_n 0, 1) := by decide +kernel
theorem dX0_dropFirst_23 : decode cX0_dropFirst 23 = .ok (.getfield 22, 3) := by decide +kernel
theorem dX0_dropFirst_26 : decode cX0_dropFirst 26 = .ok (.iconst 1, 1) := by decide +kernel
theorem dX0_dropFirst_27 : decode cX0_dropFirst 27 = .ok (.iadd, 1) := by decide +kernel
theorem dX0_dropFirst_28 : decode cX0_dropFirst 28 = .ok (.bipush 60, 2) := by decide +kernel
theorem dX0_dropFirst_30 : decode cX0_dropFirst 30 = .ok (.irem, 1) := by decide +kernel
theorem dX0_dropFirst_31 : decode cX0_dropFirst 31 = .ok (.putfield 22, 3) := by decide +kernel
theorem dX0_dropFirst_34 : decode cX0_dropFirst 34 = .ok (.return_, 1) := by decide +kernel
theorem dX1_init_0 : decode cX1_init 0 = .ok (.aload_n 0, 1) := by decide +kernel
theorem dX1_init_1 : decode cX1_init 1 = .ok (.invokespecial 3, 3) := by decide +kernel
theorem dX1_init_4 : decode cX1_init 4 = .ok (.aload_n 0, 1) := by decide +kernel
theorem dX1_init_5 : decode cX1_init 5 = .ok (.iconst 1, 1) := by decide +kernel
theorem dX1_init_6 : decode cX1_init 6 = .ok (.putfield 9, 3) := by decide +kernel
theorem dX1_init_9 : decode cX1_init 9 = .ok (.aload_n 0, 1) := by decide +kernel
theorem dX1_init_10 : decode cX1_init 10 = .ok (.iconst 1, 1) := by decide +kernel
theorem dX1_init_11 : decode cX1_init 11 = .ok (.putfield 15, 3) := by decide +kernel
theorem dX1_init_14 : decode cX1_init 14 = .ok (.return_, 1) := by decide +kernel
theorem dX1_goOn_0 : decode cX1_goOn 0 = .ok (.aload_n 0, 1) := by decide +kernel
theorem dX1_goOn_1 : decode cX1_goOn 1 = .ok (.dup, 1) := by decide +kernel
theorem dX1_goOn_2 : decode cX1_goOn 2 = .ok (.getfield 18, 3) := by decide +kernel
theorem dX1_goOn_5 : decode cX1_goOn 5 = .ok (.bipush 100, 2) := by decide +kernel
theorem dX1_goOn_7 : decode cX1_goOn 7 = .ok (.iadd, 1) := by decide +kernel
theorem dX1_goOn_8 : decode cX1_goOn 8 = .ok (.putfield 18, 3) := by decide +kernel
theorem dX1_goOn_11 : decode cX1_goOn 11 = .ok (.aload_n 0, 1) := by decide +kernel
theorem dX1_goOn_12 : decode cX1_goOn 12 = .ok (.getfield 18, 3) := by decide +kernel
theorem dX1_goOn_15 : decode cX1_goOn 15 = .ok (.ldc 21, 2) := by decide +kernel
theorem dX1_goOn_17 : decode cX1_goOn 17 = .ok (.if_icmp .ge 4, 3) := by decide +kernel
theorem dX1_goOn_20 : decode cX1_goOn 20 = .ok (.return_, 1) := by decide +kernel
theorem dX1_goOn_21 : decode cX1_goOn 21 = .ok (.aload_n 0, 1) := by decide +kernel
theorem dX1_goOn_22 : decode cX1_goOn 22 = .ok (.dup, 1) := by decide +kernel
theorem dX1_goOn_23 : decode cX1_goOn 23 = .ok (.getfield 18, 3) := by decide +kernel
theorem dX1_goOn_26 : decode cX1_goOn 26 = .ok (.ldc 21, 2) := by decide +kernel
theorem dX1_goOn_28 : decode cX1_goOn 28 = .ok (.isub, 1) := by decide +kernel
theorem dX1_goOn_29 : decode cX1_goOn 29 = .ok (.putfield 18, 3) := by decide +kernel
theorem dX1_goOn_32 : decode cX1_goOn 32 = .ok (.aload_n 0, 1) := by decide +kernel
theorem dX1_goOn_33 : decode cX1_goOn 33 = .ok (.dup, 1) := by decide +kernel
theorem dX1_goOn_34 : decode cX1_goOn 34 = .ok (.getfield 22, 3) := by decide +kernel
theorem dX1_goOn_37 : decode cX1_goOn 37 = .ok (.iconst 1, 1) := by decide +kernel
theorem dX1_goOn_38 : decode cX1_goOn 38 = .ok (.iadd, 1) := by decide +kernel
theorem dX1_goOn_39 : decode cX1_goOn 39 = .ok (.putfield 22, 3) := by decide +kernel
theorem dX1_goOn_42 : decode cX1_goOn 42 = .ok (.aload_n 0, 1) := by decide +kernel
theorem dX1_goOn_43 : decode cX1_goOn 43 = .ok (.getfield 22, 3) := by decide +kernel
theorem dX1_goOn_46 : decode cX1_goOn 46 = .ok (.bipush 60, 2) := by decide +kernel
theorem dX1_goOn_48 : decode cX1_goOn 48 = .ok (.if_icmp .ne 18, 3) := by decide +kernel
theorem dX1_goOn_51 : decode cX1_goOn 51 = .ok (.aload_n 0, 1) := by decide +kernel
theorem dX1_goOn_52 : decode cX1_goOn 52 = .ok (.iconst 0, 1) := by decide +kernel
theorem dX1_goOn_53 : decode cX1_goOn 53 = .ok (.putfield 22, 3) := by decide +kernel
theorem dX1_goOn_56 : decode cX1_goOn 56 = .ok (.aload_n 0, 1) := by decide +kernel
theorem dX1_goOn_57 : decode cX1_goOn 57 = .ok (.dup, 1) := by decide +kernel
theorem dX1_goOn_58 : decode cX1_goOn 58 = .ok (.getfield 25, 3) := by decide +kernel
theorem dX1_goOn_61 : decode cX1_goOn 61 = .ok (.iconst 1, 1) := by decide +kernel
theorem dX1_goOn_62 : decode cX1_goOn 62 = .ok (.iadd, 1) := by decide +kernel
theorem dX1_goOn_63 : decode cX1_goOn 63 = .ok (.putfield 25, 3) := by decide +kernel
theorem dX1_goOn_66 : decode cX1_goOn 66 = .ok (.aload_n 0, 1) := by decide +kernel
theorem dX1_goOn_67 : decode cX1_goOn 67 = .ok (.getfield 25, 3) := by decide +kernel
theorem dX1_goOn_70 : decode cX1_goOn 70 = .ok (.bipush 24, 2) := by decide +kernel
theorem dX1_goOn_72 : decode cX1_goOn 72 = .ok (.if_icmp .ne 18, 3) := by decide +kernel
theorem dX1_goOn_75 : decode cX1_goOn 75 = .ok (.aload_n 0, 1) := by decide +kernel
theorem dX1_goOn_76 : decode cX1_goOn 76 = .ok (.iconst 0, 1) := by decide +kernel
theorem dX1_goOn_77 : decode cX1_goOn 77 = .ok (.putfield 25, 3) := by decide +kernel
theorem dX1_goOn_80 : decode cX1_goOn 80 = .ok (.aload_n 0, 1) := by decide +kernel
theorem dX1_goOn_81 : decode cX1_goOn 81 = .ok (.dup, 1) := by decide +kernel
theorem dX1_goOn_82 : decode cX1_goOn 82 = .ok (.getfield 9, 3) := by decide +kernel
theorem dX1_goOn_85 : decode cX1_goOn 85 = .ok (.iconst 1, 1) := by decide +kernel
theorem dX1_goOn_86 : decode cX1_goOn 86 = .ok (.iadd, 1) := by decide +kernel
theorem dX1_goOn_87 : decode cX1_goOn 87 = .ok (.putfield 9, 3) := by decide +kernel
theorem dX1_goOn_90 : decode cX1_goOn 90 = .ok (.aload_n 0, 1) := by decide +kernel
theorem dX1_goOn_91 : decode cX1_goOn 91 = .ok (.getfield 9, 3) := by decide +kernel
theorem dX1_goOn_94 : decode cX1_goOn 94 = .ok (.aload_n 0, 1) := by decide +kernel
theorem dX1_goOn_95 : decode cX1_goOn 95 = .ok (.getfield 15, 3) := by decide +kernel
theorem dX1_goOn_98 : decode cX1_goOn 98 = .ok (.aload_n 0, 1) := by decide +kernel
theorem dX1_goOn_99 : decode cX1_goOn 99 = .ok (.getfield 28, 3) := by decide +kernel
theorem dX1_goOn_102 : decode cX1_goOn 102 = .ok (.invokestatic 31, 3) := by decide +kernel
theorem dX1_goOn_105 : decode cX1_goOn 105 = .ok (.if_icmp .le 18, 3) := by decide +kernel
theorem dX1_goOn_108 : decode cX1_goOn 108 = .ok (.aload_n 0, 1) := by decide +kernel
theorem dX1_goOn_109 : decode cX1_goOn 109 = .ok (.iconst 1, 1) := by decide +kernel
theorem dX1_goOn_110 : decode cX1_goOn 110 = .ok (.putfield 9, 3) := by decide +kernel
theorem dX1_goOn_113 : decode cX1_goOn 113 = .ok (.aload_n 0, 1) := by decide +kernel
theorem dX1_goOn_114 : decode cX1_goOn 114 = .ok (.dup, 1) := by decide +kernel
theorem dX1_goOn_115 : decode cX1_goOn 115 = .ok (.getfield 15, 3) := by decide +kernel
theorem dX1_goOn_118 : decode cX1_goOn 118 = .ok (.iconst 1, 1) := by decide +kernel
theorem dX1_goOn_119 : decode cX1_goOn 119 = .ok (.iadd, 1) := by decide +kernel
theorem dX1_goOn_120 : decode cX1_goOn 120 = .ok (.putfield 15, 3) := by decide +kernel
theorem dX1_goOn_123 : decode cX1_goOn 123 = .ok (.aload_n 0, 1) := by decide +kernel
theorem dX1_goOn_124 : decode cX1_goOn 124 = .ok (.getfield 15, 3) := by decide +kernel
theorem dX1_goOn_127 : decode cX1_goOn 127 = .ok (.bipush 12, 2) := by decide +kernel
theorem dX1_goOn_129 : decode cX1_goOn 129 = .ok (.if_icmp .le 21, 3) := by decide +kernel
theorem dX1_goOn_132 : decode cX1_goOn 132 = .ok (.aload_n 0, 1) := by decide +kernel
theorem dX1_goOn_133 : decode cX1_goOn 133 = .ok (.iconst 1, 1) := by decide +kernel
theorem dX1_goOn_134 : decode cX1_goOn 134 = .ok (.putfield 15, 3) := by decide +kernel
theorem dX1_goOn_137 : decode cX1_goOn 137 = .ok (.aload_n 0, 1) := by decide +kernel
theorem dX1_goOn_138 : decode cX1_goOn 138 = .ok (.aload_n 0, 1) := by decide +kernel
theorem dX1_goOn_139 : decode cX1_goOn 139 = .ok (.getfield 28, 3) := by decide +kernel
theorem dX1_goOn_142 : decode cX1_goOn 142 = .ok (.iconst 1, 1) := by decide +kernel
theorem dX1_goOn_143 : decode cX1_goOn 143 = .ok (.iadd, 1) := by decide +kernel
theorem dX1_goOn_144 : decode cX1_goOn 144 = .ok (.bipush 100, 2) := by decide +kernel
theorem dX1_goOn_146 : decode cX1_goOn 146 = .ok (.irem, 1) := by decide +kernel
theorem dX1_goOn_147 : decode cX1_goOn 147 = .ok (.putfield 28, 3) := by decide +kernel
theorem dX1_goOn_150 : decode cX1_goOn 150 = .ok (.return_, 1) := by decide +kernel
theorem dX1_time_0 : decode cX1_time 0 = .ok (.aload_n 0, 1) := by decide +kernel
theorem dX1_time_1 : decode cX1_time 1 = .ok (.getfield 9, 3) := by decide +kernel
theorem dX1_time_4 : decode cX1_time 4 = .ok (.aload_n 0, 1) := by decide +kernel
theorem dX1_time_5 : decode cX1_time 5 = .ok (.getfield 15, 3) := by decide +kernel
theorem dX1_time_8 : decode cX1_time 8 = .ok (.bipush 8, 2) := by decide +kernel
theorem dX1_time_10 : decode cX1_time 10 = .ok (.ishl, 1) := by decide +kernel
theorem dX1_time_11 : decode cX1_time 11 = .ok (.ior, 1) := by decide +kernel
theorem dX1_time_12 : decode cX1_time 12 = .ok (.aload_n 0, 1) := by decide +kernel
theorem dX1_time_13 : decode cX1_time 13 = .ok (.getfield 28, 3) := by decide +kernel
theorem dX1_time_16 : decode cX1_time 16 = .ok (.bipush 16, 2) := by decide +kernel
theorem dX1_time_18 : decode cX1_time 18 = .ok (.ishl, 1) := by decide +kernel
theorem dX1_time_19 : decode cX1_time 19 = .ok (.ior, 1) := by decide +kernel
theorem dX1_time_20 : decode cX1_time 20 = .ok (.i2l, 1) := by decide +kernel
theorem dX1_time_21 : decode cX1_time 21 = .ok (.lstore_n 1, 1) := by decide +kernel
theorem dX1_time_22 : decode cX1_time 22 = .ok (.aload_n 0, 1) := by decide +kernel
theorem dX1_time_23 : decode cX1_time 23 = .ok (.getfield 35, 3) := by decide +kernel
theorem dX1_time_26 : decode cX1_time 26 = .ok (.ifCond .eq 10, 3) := by decide +kernel
theorem dX1_time_29 : decode cX1_time 29 = .ok (.aload_n 0, 1) := by decide +kernel
theorem dX1_time_30 : decode cX1_time 30 = .ok (.getfield 22, 3) := by decide +kernel
theorem dX1_time_33 : decode cX1_time 33 = .ok (.goto 11, 3) := by decide +kernel
theorem dX1_time_36 : decode cX1_time 36 = .ok (.aload_n 0, 1) := by decide +kernel
theorem dX1_time_37 : decode cX1_time 37 = .ok (.getfield 22, 3) := by decide +kernel
theorem dX1_time_40 : decode cX1_time 40 = .ok (.sipush 128, 3) := by decide +kernel
theorem dX1_time_43 : decode cX1_time 43 = .ok (.ior, 1) := by decide +kernel
theorem dX1_time_44 : decode cX1_time 44 = .ok (.istore_n 3, 1) := by decide +kernel
theorem dX1_time_45 : decode cX1_time 45 = .ok (.aload_n 0, 1) := by decide +kernel
theorem dX1_time_46 : decode cX1_time 46 = .ok (.getfield 18, 3) := by decide +kernel
theorem dX1_time_49 : decode cX1_time 49 = .ok (.i2l, 1) := by decide +kernel
theorem dX1_time_50 : decode cX1_time 50 = .ok (.iload_n 3, 1) := by decide +kernel
theorem dX1_time_51 : decode cX1_time 51 = .ok (.i2l, 1) := by decide +kernel
theorem dX1_time_52 : decode cX1_time 52 = .ok (.bipush 16, 2) := by decide +kernel
theorem dX1_time_54 : decode cX1_time 54 = .ok (.lshl, 1) := by decide +kernel
theorem dX1_time_55 : decode cX1_time 55 = .ok (.lor, 1) := by decide +kernel
theorem dX1_time_56 : decode cX1_time 56 = .ok (.aload_n 0, 1) := by decide +kernel
theorem dX1_time_57 : decode cX1_time 57 = .ok (.getfield 25, 3) := by decide +kernel
theorem dX1_time_60 : decode cX1_time 60 = .ok (.i2l, 1) := by decide +kernel
theorem dX1_time_61 : decode cX1_time 61 = .ok (.bipush 24, 2) := by decide +kernel
theorem dX1_time_63 : decode cX1_time 63 = .ok (.lshl, 1) := by decide +kernel
theorem dX1_time_64 : decode cX1_time 64 = .ok (.lor, 1) := by decide +kernel
theorem dX1_time_65 : decode cX1_time 65 = .ok (.lload_n 1, 1) := by decide +kernel
theorem dX1_time_66 : decode cX1_time 66 = .ok (.bipush 32, 2) := by decide +kernel
theorem dX1_time_68 : decode cX1_time 68 = .ok (.lshl, 1) := by decide +kernel
theorem dX1_time_69 : decode cX1_time 69 = .ok (.lor, 1) := by decide +kernel
theorem dX1_time_70 : decode cX1_time 70 = .ok (.lreturn, 1) := by decide +kernel
theorem dX1_become_0 : decode cX1_become 0 = .ok (.aload_n 0, 1) := by decide +kernel
theorem dX1_become_1 : decode cX1_become 1 = .ok (.lload_n 1, 1) := by decide +kernel
theorem dX1_become_2 : decode cX1_become 2 = .ok (.l2i, 1) := by decide +kernel
theorem dX1_become_3 : decode cX1_become 3 = .ok (.ldc 39, 2) := by decide +kernel
theorem dX1_become_5 : decode cX1_become 5 = .ok (.iand, 1) := by decide +kernel
theorem dX1_become_6 : decode cX1_become 6 = .ok (.putfield 18, 3) := by decide +kernel
theorem dX1_become_9 : decode cX1_become 9 = .ok (.aload_n 0, 1) := by decide +kernel
theorem dX1_become_10 : decode cX1_become 10 = .ok (.lload_n 1, 1) := by decide +kernel
theorem dX1_become_11 : decode cX1_become 11 = .ok (.bipush 16, 2) := by decide +kernel
theorem dX1_become_13 : decode cX1_become 13 = .ok (.lshr, 1) := by decide +kernel
theorem dX1_become_14 : decode cX1_become 14 = .ok (.l2i, 1) := by decide +kernel
theorem dX1_become_15 : decode cX1_become 15 = .ok (.sipush 255, 3) := by decide +kernel
theorem dX1_become_18 : decode cX1_become 18 = .ok (.iand, 1) := by decide +kernel
theorem dX1_become_19 : decode cX1_become 19 = .ok (.putfield 22, 3) := by decide +kernel
theorem dX1_become_22 : decode cX1_become 22 = .ok (.aload_n 0, 1) := by decide +kernel
theorem dX1_become_23 : decode cX1_become 23 = .ok (.lload_n 1, 1) := by decide +kernel
theorem dX1_become_24 : decode cX1_become 24 = .ok (.bipush 24, 2) := by decide +kernel
theorem dX1_become_26 : decode cX1_become 26 = .ok (.lshr, 1) := by decide +kernel
theorem dX1_become_27 : decode cX1_become 27 = .ok (.l2i, 1) := by decide +kernel
theorem dX1_become_28 : decode cX1_become 28 = .ok (.sipush 255, 3) := by decide +kernel
theorem dX1_become_31 : decode cX1_become 31 = .ok (.iand, 1) := by decide +kernel
theorem dX1_become_32 : decode cX1_become 32 = .ok (.putfield 25, 3) := by decide +kernel
theorem dX1_become_35 : decode cX1_become 35 = .ok (.aload_n 0, 1) := by decide +kernel
theorem dX1_become_36 : decode cX1_become 36 = .ok (.lload_n 1, 1) := by decide +kernel
theorem dX1_become_37 : decode cX1_become 37 = .ok (.bipush 32, 2) := by decide +kernel
theorem dX1_become_39 : decode cX1_become 39 = .ok (.lshr, 1) := by decide +kernel
theorem dX1_become_40 : decode cX1_become 40 = .ok (.l2i, 1) := by decide +kernel
theorem dX1_become_41 : decode cX1_become 41 = .ok (.sipush 255, 3) := by decide +kernel
theorem dX1_become_44 : decode cX1_become 44 = .ok (.iand, 1) := by decide +kernel
theorem dX1_become_45 : decode cX1_become 45 = .ok (.putfield 9, 3) := by decide +kernel
theorem dX1_become_48 : decode cX1_become 48 = .ok (.aload_n 0, 1) := by decide +kernel
theorem dX1_become_49 : decode cX1_become 49 = .ok (.lload_n 1, 1) := by decide +kernel
theorem dX1_become_50 : decode cX1_become 50 = .ok (.bipush 40, 2) := by decide +kernel
theorem dX1_become_52 : decode cX1_become 52 = .ok (.lshr, 1) := by decide +kernel
theorem dX1_become_53 : decode cX1_become 53 = .ok (.l2i, 1) := by decide +kernel
theorem dX1_become_54 : decode cX1_become 54 = .ok (.sipush 255, 3) := by decide +kernel
theorem dX1_become_57 : decode cX1_become 57 = .ok (.iand, 1) := by decide +kernel
theorem dX1_become_58 : decode cX1_become 58 = .ok (.putfield 15, 3) := by decide +kernel
theorem dX1_become_61 : decode cX1_become 61 = .ok (.aload_n 0, 1) := by decide +kernel
theorem dX1_become_62 : decode cX1_become 62 = .ok (.lload_n 1, 1) := by decide +kernel
theorem dX1_become_63 : decode cX1_become 63 = .ok (.bipush 48, 2) := by decide +kernel
theorem dX1_become_65 : decode cX1_become 65 = .ok (.lshr, 1) := by decide +kernel
theorem dX1_become_66 : decode cX1_become 66 = .ok (.l2i, 1) := by decide +kernel
theorem dX1_become_67 : decode cX1_become 67 = .ok (.sipush 255, 3) := by decide +kernel
theorem dX1_become_70 : decode cX1_become 70 = .ok (.iand, 1) := by decide +kernel
theorem dX1_become_71 : decode cX1_become 71 = .ok (.putfield 28, 3) := by decide +kernel
theorem dX1_become_74 : decode cX1_become 74 = .ok (.aload_n 0, 1) := by decide +kernel
theorem dX1_become_75 : decode cX1_become 75 = .ok (.iconst 1, 1) := by decide +kernel
theorem dX1_become_76 : decode cX1_become 76 = .ok (.putfield 35, 3) := by decide +kernel
theorem dX1_become_79 : decode cX1_become 79 = .ok (.return_, 1) := by decide +kernel
theorem dX1_isTime_0 : decode cX1_isTime 0 = .ok (.lload_n 0, 1) := by decide +kernel
theorem dX1_isTime_1 : decode cX1_isTime 1 = .ok (.bipush 32, 2) := by decide +kernel
theorem dX1_isTime_3 : decode cX1_isTime 3 = .ok (.lshr, 1) := by decide +kernel
theorem dX1_isTime_4 : decode cX1_isTime 4 = .ok (.l2i, 1) := by decide +kernel
theorem dX1_isTime_5 : decode cX1_isTime 5 = .ok (.sipush 255, 3) := by decide +kernel
theorem dX1_isTime_8 : decode cX1_isTime 8 = .ok (.iand, 1) := by decide +kernel
theorem dX1_isTime_9 : decode cX1_isTime 9 = .ok (.istore_n 2, 1) := by decide +kernel
theorem dX1_isTime_10 : decode cX1_isTime 10 = .ok (.lload_n 0, 1) := by decide +kernel
theorem dX1_isTime_11 : decode cX1_isTime 11 = .ok (.bipush 40, 2) := by decide +kernel
theorem dX1_isTime_13 : decode cX1_isTime 13 = .ok (.lshr, 1) := by decide +kernel
theorem dX1_isTime_14 : decode cX1_isTime 14 = .ok (.l2i, 1) := by decide +kernel
theorem dX1_isTime_15 : decode cX1_isTime 15 = .ok (.sipush 255, 3) := by decide +kernel
theorem dX1_isTime_18 : decode cX1_isTime 18 = .ok (.iand, 1) := by decide +kernel
theorem dX1_isTime_19 : decode cX1_isTime 19 = .ok (.istore_n 3, 1) := by decide +kernel
theorem dX1_isTime_20 : decode cX1_isTime 20 = .ok (.lload_n 0, 1) := by decide +kernel
theorem dX1_isTime_21 : decode cX1_isTime 21 = .ok (.bipush 48, 2) := by decide +kernel
theorem dX1_isTime_23 : decode cX1_isTime 23 = .ok (.lshr, 1) := by decide +kernel
theorem dX1_isTime_24 : decode cX1_isTime 24 = .ok (.l2i, 1) := by decide +kernel
theorem dX1_isTime_25 : decode cX1_isTime 25 = .ok (.sipush 255, 3) := by decide +kernel
theorem dX1_isTime_28 : decode cX1_isTime 28 = .ok (.iand, 1) := by decide +kernel
theorem dX1_isTime_29 : decode cX1_isTime 29 = .ok (.istore 4, 2) := by decide +kernel
theorem dX1_isTime_31 : decode cX1_isTime 31 = .ok (.lload_n 0, 1) := by decide +kernel
theorem dX1_isTime_32 : decode cX1_isTime 32 = .ok (.ldc2_w 40, 3) := by decide +kernel
theorem dX1_isTime_35 : decode cX1_isTime 35 = .ok (.land, 1) := by decide +kernel
theorem dX1_isTime_36 : decode cX1_isTime 36 = .ok (.ldc2_w 42, 3) := by decide +kernel
theorem dX1_isTime_39 : decode cX1_isTime 39 = .ok (.lcmp, 1) := by decide +kernel
theorem dX1_isTime_40 : decode cX1_isTime 40 = .ok (.ifCond .ge 59, 3) := by decide +kernel
theorem dX1_isTime_43 : decode cX1_isTime 43 = .ok (.lload_n 0, 1) := by decide +kernel
theorem dX1_isTime_44 : decode cX1_isTime 44 = .ok (.bipush 16, 2) := by decide +kernel
theorem dX1_isTime_46 : decode cX1_isTime 46 = .ok (.lshr, 1) := by decide +kernel
theorem dX1_isTime_47 : decode cX1_isTime 47 = .ok (.ldc2_w 44, 3) := by decide +kernel
theorem dX1_isTime_50 : decode cX1_isTime 50 = .ok (.land, 1) := by decide +kernel
theorem dX1_isTime_51 : decode cX1_isTime 51 = .ok (.ldc2_w 46, 3) := by decide +kernel
theorem dX1_isTime_54 : decode cX1_isTime 54 = .ok (.lcmp, 1) := by decide +kernel
theorem dX1_isTime_55 : decode cX1_isTime 55 = .ok (.ifCond .ge 44, 3) := by decide +kernel
theorem dX1_isTime_58 : decode cX1_isTime 58 = .ok (.lload_n 0, 1) := by decide +kernel
theorem dX1_isTime_59 : decode cX1_isTime 59 = .ok (.bipush 24, 2) := by decide +kernel
theorem dX1_isTime_61 : decode cX1_isTime 61 = .ok (.lshr, 1) := by decide +kernel
theorem dX1_isTime_62 : decode cX1_isTime 62 = .ok (.ldc2_w 44, 3) := by decide +kernel
theorem dX1_isTime_65 : decode cX1_isTime 65 = .ok (.land, 1) := by decide +kernel
theorem dX1_isTime_66 : decode cX1_isTime 66 = .ok (.ldc2_w 48, 3) := by decide +kernel
theorem dX1_isTime_69 : decode cX1_isTime 69 = .ok (.lcmp, 1) := by decide +kernel
theorem dX1_isTime_70 : decode cX1_isTime 70 = .ok (.ifCond .ge 29, 3) := by decide +kernel
theorem dX1_isTime_73 : decode cX1_isTime 73 = .ok (.iload 4, 2) := by decide +kernel
theorem dX1_isTime_75 : decode cX1_isTime 75 = .ok (.bipush 100, 2) := by decide +kernel
theorem dX1_isTime_77 : decode cX1_isTime 77 = .ok (.if_icmp .ge 22, 3) := by decide +kernel
theorem dX1_isTime_80 : decode cX1_isTime 80 = .ok (.iload_n 2, 1) := by decide +kernel
theorem dX1_isTime_81 : decode cX1_isTime 81 = .ok (.iconst 1, 1) := by decide +kernel
theorem dX1_isTime_82 : decode cX1_isTime 82 = .ok (.if_icmp .lt 17, 3) := by decide +kernel
theorem dX1_isTime_85 : decode cX1_isTime 85 = .ok (.iload_n 2, 1) := by decide +kernel
theorem dX1_isTime_86 : decode cX1_isTime 86 = .ok (.iload_n 3, 1) := by decide +kernel
theorem dX1_isTime_87 : decode cX1_isTime 87 = .ok (.iload 4, 2) := by decide +kernel
theorem dX1_isTime_89 : decode cX1_isTime 89 = .ok (.invokestatic 31, 3) := by decide +kernel
theorem dX1_isTime_92 : decode cX1_isTime 92 = .ok (.if_icmp .gt 7, 3) := by decide +kernel
theorem dX1_isTime_95 : decode cX1_isTime 95 = .ok (.iconst 1, 1) := by decide +kernel
theorem dX1_isTime_96 : decode cX1_isTime 96 = .ok (.goto 4, 3) := by decide +kernel
theorem dX1_isTime_99 : decode cX1_isTime 99 = .ok (.iconst 0, 1) := by decide +kernel
theorem dX1_isTime_100 : decode cX1_isTime 100 = .ok (.ireturn, 1) := by decide +kernel
theorem dX1_daysOf_0 : decode cX1_daysOf 0 = .ok (.iload_n 0, 1) := by decide +kernel
theorem dX1_daysOf_1 : decode cX1_daysOf 1 = .ok (.iconst 1, 1) := by decide +kernel
theorem dX1_daysOf_2 : decode cX1_daysOf 2 = .ok (.if_icmp .lt 9, 3) := by decide +kernel
theorem dX1_daysOf_5 : decode cX1_daysOf 5 = .ok (.iload_n 0, 1) := by decide +kernel
theorem dX1_daysOf_6 : decode cX1_daysOf 6 = .ok (.bipush 12, 2) := by decide +kernel
theorem dX1_daysOf_8 : decode cX1_daysOf 8 = .ok (.if_icmp .le 5, 3) := by decide +kernel
theorem dX1_daysOf_11 : decode cX1_daysOf 11 = .ok (.iconst 0, 1) := by decide +kernel
theorem dX1_daysOf_12 : decode cX1_daysOf 12 = .ok (.ireturn, 1) := by decide +kernel
theorem dX1_daysOf_13 : decode cX1_daysOf 13 = .ok (.iload_n 0, 1) := by decide +kernel
theorem dX1_daysOf_14 : decode cX1_daysOf 14 = .ok (.iconst 2, 1) := by decide +kernel
theorem dX1_daysOf_15 : decode cX1_daysOf 15 = .ok (.if_icmp .ne 14, 3) := by decide +kernel
theorem dX1_daysOf_18 : decode cX1_daysOf 18 = .ok (.iload_n 1, 1) := by decide +kernel
theorem dX1_daysOf_19 : decode cX1_daysOf 19 = .ok (.iconst 4, 1) := by decide +kernel
theorem dX1_daysOf_20 : decode cX1_daysOf 20 = .ok (.irem, 1) := by decide +kernel
theorem dX1_daysOf_21 : decode cX1_daysOf 21 = .ok (.ifCond .ne 8, 3) := by decide +kernel
theorem dX1_daysOf_24 : decode cX1_daysOf 24 = .ok (.bipush 29, 2) := by decide +kernel
theorem dX1_daysOf_26 : decode cX1_daysOf 26 = .ok (.goto 10, 3) := by decide +kernel
theorem dX1_daysOf_29 : decode cX1_daysOf 29 = .ok (.getstatic 50, 3) := by decide +kernel
theorem dX1_daysOf_32 : decode cX1_daysOf 32 = .ok (.iload_n 0, 1) := by decide +kernel
theorem dX1_daysOf_33 : decode cX1_daysOf 33 = .ok (.iconst 1, 1) := by decide +kernel
theorem dX1_daysOf_34 : decode cX1_daysOf 34 = .ok (.isub, 1) := by decide +kernel
theorem dX1_daysOf_35 : decode cX1_daysOf 35 = .ok (.iaload, 1) := by decide +kernel
theorem dX1_daysOf_36 : decode cX1_daysOf 36 = .ok (.ireturn, 1) := by decide +kernel
theorem dX2_init_0 : decode cX2_init 0 = .ok (.aload_n 0, 1) := by decide +kernel
theorem dX2_init_1 : decode cX2_init 1 = .ok (.invokespecial 1, 3) := by decide +kernel
theorem dX2_init_4 : decode cX2_init 4 = .ok (.aload_n 0, 1) := by decide +kernel
theorem dX2_init_5 : decode cX2_init 5 = .ok (.iload_n 1, 1) := by decide +kernel
theorem dX2_init_6 : decode cX2_init 6 = .ok (.putfield 7, 3) := by decide +kernel
theorem dX2_init_9 : decode cX2_init 9 = .ok (.aload_n 0, 1) := by decide +kernel
theorem dX2_init_10 : decode cX2_init 10 = .ok (.iload_n 2, 1) := by decide +kernel
theorem dX2_init_11 : decode cX2_init 11 = .ok (.putfield 13, 3) := by decide +kernel
theorem dX2_init_14 : decode cX2_init 14 = .ok (.aload_n 0, 1) := by decide +kernel
theorem dX2_init_15 : decode cX2_init 15 = .ok (.aload_n 3, 1) := by decide +kernel
theorem dX2_init_16 : decode cX2_init 16 = .ok (.putfield 16, 3) := by decide +kernel
theorem dX2_init_19 : decode cX2_init 19 = .ok (.aload_n 0, 1) := by decide +kernel
theorem dX2_init_20 : decode cX2_init 20 = .ok (.iload 4, 2) := by decide +kernel
theorem dX2_init_22 : decode cX2_init 22 = .ok (.putfield 20, 3) := by decide +kernel
theorem dX2_init_25 : decode cX2_init 25 = .ok (.return_, 1) := by decide +kernel
theorem dX2_isOrder_0 : decode cX2_isOrder 0 = .ok (.aload_n 0, 1) := by decide +kernel
theorem dX2_isOrder_1 : decode cX2_isOrder 1 = .ok (.getfield 7, 3) := by decide +kernel
theorem dX2_isOrder_4 : decode cX2_isOrder 4 = .ok (.lookupswitch 60 #[(0, 28), (1, 40)], 28) := by decide +kernel
theorem dX2_isOrder_32 : decode cX2_isOrder 32 = .ok (.iload_n 1, 1) := by decide +kernel
theorem dX2_isOrder_33 : decode cX2_isOrder 33 = .ok (.iconst 2, 1) := by decide +kernel
theorem dX2_isOrder_34 : decode cX2_isOrder 34 = .ok (.iand, 1) := by decide +kernel
theorem dX2_isOrder_35 : decode cX2_isOrder 35 = .ok (.ifCond .ne 7, 3) := by decide +kernel
theorem dX2_isOrder_38 : decode cX2_isOrder 38 = .ok (.iconst 1, 1) := by decide +kernel
theorem dX2_isOrder_39 : decode cX2_isOrder 39 = .ok (.goto 4, 3) := by decide +kernel
theorem dX2_isOrder_42 : decode cX2_isOrder 42 = .ok (.iconst 0, 1) := by decide +kernel
theorem dX2_isOrder_43 : decode cX2_isOrder 43 = .ok (.ireturn, 1) := by decide +kernel
theorem dX2_isOrder_44 : decode cX2_isOrder 44 = .ok (.iload_n 1, 1) := by decide +kernel
theorem dX2_isOrder_45 : decode cX2_isOrder 45 = .ok (.iconst 3, 1) := by decide +kernel
theorem dX2_isOrder_46 : decode cX2_isOrder 46 = .ok (.iand, 1) := by decide +kernel
theorem dX2_isOrder_47 : decode cX2_isOrder 47 = .ok (.iconst 1, 1) := by decide +kernel
theorem dX2_isOrder_48 : decode cX2_isOrder 48 = .ok (.if_icmp .eq 10, 3) := by decide +kernel
theorem dX2_isOrder_51 : decode cX2_isOrder 51 = .ok (.iload_n 1, 1) := by decide +kernel
theorem dX2_isOrder_52 : decode cX2_isOrder 52 = .ok (.iconst 3, 1) := by decide +kernel
theorem dX2_isOrder_53 : decode cX2_isOrder 53 = .ok (.iand, 1) := by decide +kernel
theorem dX2_isOrder_54 : decode cX2_isOrder 54 = .ok (.iconst 2, 1) := by decide +kernel
theorem dX2_isOrder_55 : decode cX2_isOrder 55 = .ok (.if_icmp .ne 7, 3) := by decide +kernel
theorem dX2_isOrder_58 : decode cX2_isOrder 58 = .ok (.iconst 1, 1) := by decide +kernel
theorem dX2_isOrder_59 : decode cX2_isOrder 59 = .ok (.goto 4, 3) := by decide +kernel
theorem dX2_isOrder_62 : decode cX2_isOrder 62 = .ok (.iconst 0, 1) := by decide +kernel
theorem dX2_isOrder_63 : decode cX2_isOrder 63 = .ok (.ireturn, 1) := by decide +kernel
theorem dX2_isOrder_64 : decode cX2_isOrder 64 = .ok (.iconst 1, 1) := by decide +kernel
theorem dX2_isOrder_65 : decode cX2_isOrder 65 = .ok (.ireturn, 1) := by decide +kernel
theorem dX2_valueOf_0 : decode cX2_valueOf 0 = .ok (.aload_n 0, 1) := by decide +kernel
theorem dX2_valueOf_1 : decode cX2_valueOf 1 = .ok (.getfield 7, 3) := by decide +kernel
theorem dX2_valueOf_4 : decode cX2_valueOf 4 = .ok (.lookupswitch 36 #[(0, 28), (1, 32)], 28) := by decide +kernel
theorem dX2_valueOf_32 : decode cX2_valueOf 32 = .ok (.iload_n 1, 1) := by decide +kernel
theorem dX2_valueOf_33 : decode cX2_valueOf 33 = .ok (.iconst 1, 1) := by decide +kernel
theorem dX2_valueOf_34 : decode cX2_valueOf 34 = .ok (.iand, 1) := by decide +kernel
theorem dX2_valueOf_35 : decode cX2_valueOf 35 = .ok (.ireturn, 1) := by decide +kernel
theorem dX2_valueOf_36 : decode cX2_valueOf 36 = .ok (.iload_n 1, 1) := by decide +kernel
theorem dX2_valueOf_37 : decode cX2_valueOf 37 = .ok (.iconst 3, 1) := by decide +kernel
theorem dX2_valueOf_38 : decode cX2_valueOf 38 = .ok (.iand, 1) := by decide +kernel
theorem dX2_valueOf_39 : decode cX2_valueOf 39 = .ok (.ireturn, 1) := by decide +kernel
theorem dX2_valueOf_40 : decode cX2_valueOf 40 = .ok (.iload_n 1, 1) := by decide +kernel
theorem dX2_valueOf_41 : decode cX2_valueOf 41 = .ok (.i2s, 1) := by decide +kernel
theorem dX2_valueOf_42 : decode cX2_valueOf 42 = .ok (.ireturn, 1) := by decide +kernel
theorem dX3_init_0 : decode cX3_init 0 = .ok (.aload_n 0, 1) := by decide +kernel
theorem dX3_init_1 : decode cX3_init 1 = .ok (.invokespecial 3, 3) := by decide +kernel
theorem dX3_init_4 : decode cX3_init 4 = .ok (.aload_n 0, 1) := by decide +kernel
theorem dX3_init_5 : decode cX3_init 5 = .ok (.bipush 52, 2) := by decide +kernel
theorem dX3_init_7 : decode cX3_init 7 = .ok (.anewarray 11, 3) := by decide +kernel
theorem dX3_init_10 : decode cX3_init 10 = .ok (.putfield 13, 3) := by decide +kernel
theorem dX3_init_13 : decode cX3_init 13 = .ok (.aload_n 0, 1) := by decide +kernel
theorem dX3_init_14 : decode cX3_init 14 = .ok (.bipush 52, 2) := by decide +kernel
theorem dX3_init_16 : decode cX3_init 16 = .ok (.newarray .long, 2) := by decide +kernel
theorem dX3_init_18 : decode cX3_init 18 = .ok (.putfield 17, 3) := by decide +kernel
theorem dX3_init_21 : decode cX3_init 21 = .ok (.aload_n 0, 1) := by decide +kernel
theorem dX3_init_22 : decode cX3_init 22 = .ok (.bipush 52, 2) := by decide +kernel
theorem dX3_init_24 : decode cX3_init 24 = .ok (.newarray .long, 2) := by decide +kernel
theorem dX3_init_26 : decode cX3_init 26 = .ok (.putfield 21, 3) := by decide +kernel
theorem dX3_init_29 : decode cX3_init 29 = .ok (.aload_n 0, 1) := by decide +kernel
theorem dX3_init_30 : decode cX3_init 30 = .ok (.new 24, 3) := by decide +kernel
theorem dX3_init_33 : decode cX3_init 33 = .ok (.dup, 1) := by decide +kernel
theorem dX3_init_34 : decode cX3_init 34 = .ok (.invokespecial 26, 3) := by decide +kernel
theorem dX3_init_37 : decode cX3_init 37 = .ok (.putfield 27, 3) := by decide +kernel
theorem dX3_init_40 : decode cX3_init 40 = .ok (.return_, 1) := by decide +kernel
theorem dX3_waiting_0 : decode cX3_waiting 0 = .ok (.aload_n 0, 1) := by decide +kernel
theorem dX3_waiting_1 : decode cX3_waiting 1 = .ok (.getfield 31, 3) := by decide +kernel
theorem dX3_waiting_4 : decode cX3_waiting 4 = .ok (.aload_n 0, 1) := by decide +kernel
theorem dX3_waiting_5 : decode cX3_waiting 5 = .ok (.getfield 35, 3) := by decide +kernel
theorem dX3_waiting_8 : decode cX3_waiting 8 = .ok (.isub, 1) := by decide +kernel
theorem dX3_waiting_9 : decode cX3_waiting 9 = .ok (.ireturn, 1) := by decide +kernel
theorem dX3_add_0 : decode cX3_add 0 = .ok (.aload_n 0, 1) := by decide +kernel
theorem dX3_add_1 : decode cX3_add 1 = .ok (.getfield 31, 3) := by decide +kernel
theorem dX3_add_4 : decode cX3_add 4 = .ok (.bipush 52, 2) := by decide +kernel
theorem dX3_add_6 : decode cX3_add 6 = .ok (.if_icmp .lt 4, 3) := by decide +kernel
theorem dX3_add_9 : decode cX3_add 9 = .ok (.return_, 1) := by decide +kernel
theorem dX3_add_10 : decode cX3_add 10 = .ok (.aload_n 0, 1) := by decide +kernel
theorem dX3_add_11 : decode cX3_add 11 = .ok (.getfield 38, 3) := by decide +kernel
theorem dX3_add_14 : decode cX3_add 14 = .ok (.aload_n 0, 1) := by decide +kernel
theorem dX3_add_15 : decode cX3_add 15 = .ok (.getfield 31, 3) := by decide +kernel
theorem dX3_add_18 : decode cX3_add 18 = .ok (.iadd, 1) := by decide +kernel
theorem dX3_add_19 : decode cX3_add 19 = .ok (.bipush 52, 2) := by decide +kernel
theorem dX3_add_21 : decode cX3_add 21 = .ok (.irem, 1) := by decide +kernel
theorem dX3_add_22 : decode cX3_add 22 = .ok (.istore 6, 2) := by decide +kernel
theorem dX3_add_24 : decode cX3_add 24 = .ok (.aload_n 0, 1) := by decide +kernel
theorem dX3_add_25 : decode cX3_add 25 = .ok (.getfield 13, 3) := by decide +kernel
theorem dX3_add_28 : decode cX3_add 28 = .ok (.iload 6, 2) := by decide +kernel
theorem dX3_add_30 : decode cX3_add 30 = .ok (.aload_n 1, 1) := by decide +kernel
theorem dX3_add_31 : decode cX3_add 31 = .ok (.aastore, 1) := by decide +kernel
theorem dX3_add_32 : decode cX3_add 32 = .ok (.aload_n 0, 1) := by decide +kernel
theorem dX3_add_33 : decode cX3_add 33 = .ok (.getfield 17, 3) := by decide +kernel
theorem dX3_add_36 : decode cX3_add 36 = .ok (.iload 6, 2) := by decide +kernel
theorem dX3_add_38 : decode cX3_add 38 = .ok (.lload_n 2, 1) := by decide +kernel
theorem dX3_add_39 : decode cX3_add 39 = .ok (.lastore, 1) := by decide +kernel
theorem dX3_add_40 : decode cX3_add 40 = .ok (.aload_n 0, 1) := by decide +kernel
theorem dX3_add_41 : decode cX3_add 41 = .ok (.getfield 21, 3) := by decide +kernel
theorem dX3_add_44 : decode cX3_add 44 = .ok (.iload 6, 2) := by decide +kernel
theorem dX3_add_46 : decode cX3_add 46 = .ok (.lload 4, 2) := by decide +kernel
theorem dX3_add_48 : decode cX3_add 48 = .ok (.lastore, 1) := by decide +kernel
theorem dX3_add_49 : decode cX3_add 49 = .ok (.aload_n 0, 1) := by decide +kernel
theorem dX3_add_50 : decode cX3_add 50 = .ok (.dup, 1) := by decide +kernel
theorem dX3_add_51 : decode cX3_add 51 = .ok (.getfield 31, 3) := by decide +kernel
theorem dX3_add_54 : decode cX3_add 54 = .ok (.iconst 1, 1) := by decide +kernel
theorem dX3_add_55 : decode cX3_add 55 = .ok (.iadd, 1) := by decide +kernel
theorem dX3_add_56 : decode cX3_add 56 = .ok (.putfield 31, 3) := by decide +kernel
theorem dX3_add_59 : decode cX3_add 59 = .ok (.return_, 1) := by decide +kernel
theorem dX3_next_0 : decode cX3_next 0 = .ok (.aload_n 0, 1) := by decide +kernel
theorem dX3_next_1 : decode cX3_next 1 = .ok (.getfield 38, 3) := by decide +kernel
theorem dX3_next_4 : decode cX3_next 4 = .ok (.aload_n 0, 1) := by decide +kernel
theorem dX3_next_5 : decode cX3_next 5 = .ok (.getfield 35, 3) := by decide +kernel
theorem dX3_next_8 : decode cX3_next 8 = .ok (.iadd, 1) := by decide +kernel
theorem dX3_next_9 : decode cX3_next 9 = .ok (.bipush 52, 2) := by decide +kernel
theorem dX3_next_11 : decode cX3_next 11 = .ok (.irem, 1) := by decide +kernel
theorem dX3_next_12 : decode cX3_next 12 = .ok (.istore_n 2, 1) := by decide +kernel
theorem dX3_next_13 : decode cX3_next 13 = .ok (.aload_n 0, 1) := by decide +kernel
theorem dX3_next_14 : decode cX3_next 14 = .ok (.getfield 13, 3) := by decide +kernel
theorem dX3_next_17 : decode cX3_next 17 = .ok (.iload_n 2, 1) := by decide +kernel
theorem dX3_next_18 : decode cX3_next 18 = .ok (.aaload, 1) := by decide +kernel
theorem dX3_next_19 : decode cX3_next 19 = .ok (.astore_n 3, 1) := by decide +kernel
theorem dX3_next_20 : decode cX3_next 20 = .ok (.aload_n 0, 1) := by decide +kernel
theorem dX3_next_21 : decode cX3_next 21 = .ok (.getfield 27, 3) := by decide +kernel
theorem dX3_next_24 : decode cX3_next 24 = .ok (.invokevirtual 41, 3) := by decide +kernel
theorem dX3_next_27 : decode cX3_next 27 = .ok (.aload_n 3, 1) := by decide +kernel
theorem dX3_next_28 : decode cX3_next 28 = .ok (.ifnonnull 8, 3) := by decide +kernel
theorem dX3_next_31 : decode cX3_next 31 = .ok (.aload_n 0, 1) := by decide +kernel
theorem dX3_next_32 : decode cX3_next 32 = .ok (.getfield 27, 3) := by decide +kernel
theorem dX3_next_35 : decode cX3_next 35 = .ok (.areturn, 1) := by decide +kernel
theorem dX3_next_36 : decode cX3_next 36 = .ok (.aload_n 3, 1) := by decide +kernel
theorem dX3_next_37 : decode cX3_next 37 = .ok (.getfield 44, 3) := by decide +kernel
theorem dX3_next_40 : decode cX3_next 40 = .ok (.ifCond .eq 14, 3) := by decide +kernel
theorem dX3_next_43 : decode cX3_next 43 = .ok (.getstatic 48, 3) := by decide +kernel
theorem dX3_next_46 : decode cX3_next 46 = .ok (.aload_n 3, 1) := by decide +kernel
theorem dX3_next_47 : decode cX3_next 47 = .ok (.getfield 52, 3) := by decide +kernel
theorem dX3_next_50 : decode cX3_next 50 = .ok (.iaload, 1) := by decide +kernel
theorem dX3_next_51 : decode cX3_next 51 = .ok (.goto 11, 3) := by decide +kernel
theorem dX3_next_54 : decode cX3_next 54 = .ok (.getstatic 55, 3) := by decide +kernel
theorem dX3_next_57 : decode cX3_next 57 = .ok (.aload_n 3, 1) := by decide +kernel
theorem dX3_next_58 : decode cX3_next 58 = .ok (.getfield 52, 3) := by decide +kernel
theorem dX3_next_61 : decode cX3_next 61 = .ok (.iaload, 1) := by decide +kernel
theorem dX3_next_62 : decode cX3_next 62 = .ok (.istore 4, 2) := by decide +kernel
theorem dX3_next_64 : decode cX3_next 64 = .ok (.aload_n 0, 1) := by decide +kernel
theorem dX3_next_65 : decode cX3_next 65 = .ok (.getfield 27, 3) := by decide +kernel
theorem dX3_next_68 : decode cX3_next 68 = .ok (.iload 4, 2) := by decide +kernel
theorem dX3_next_70 : decode cX3_next 70 = .ok (.iconst 3, 1) := by decide +kernel
theorem dX3_next_71 : decode cX3_next 71 = .ok (.iconst 0, 1) := by decide +kernel
theorem dX3_next_72 : decode cX3_next 72 = .ok (.iload_n 1, 1) := by decide +kernel
theorem dX3_next_73 : decode cX3_next 73 = .ok (.invokestatic 58, 3) := by decide +kernel
theorem dX3_next_76 : decode cX3_next 76 = .ok (.bipush 6, 2) := by decide +kernel
theorem dX3_next_78 : decode cX3_next 78 = .ok (.invokevirtual 62, 3) := by decide +kernel
theorem dX3_next_81 : decode cX3_next 81 = .ok (.aload_n 0, 1) := by decide +kernel
theorem dX3_next_82 : decode cX3_next 82 = .ok (.getfield 27, 3) := by decide +kernel
theorem dX3_next_85 : decode cX3_next 85 = .ok (.aload_n 0, 1) := by decide +kernel
theorem dX3_next_86 : decode cX3_next 86 = .ok (.getfield 17, 3) := by decide +kernel
theorem dX3_next_89 : decode cX3_next 89 = .ok (.iload_n 2, 1) := by decide +kernel
theorem dX3_next_90 : decode cX3_next 90 = .ok (.laload, 1) := by decide +kernel
theorem dX3_next_91 : decode cX3_next 91 = .ok (.aload_n 3, 1) := by decide +kernel
theorem dX3_next_92 : decode cX3_next 92 = .ok (.invokevirtual 66, 3) := by decide +kernel
theorem dX3_next_95 : decode cX3_next 95 = .ok (.invokevirtual 62, 3) := by decide +kernel
theorem dX3_next_98 : decode cX3_next 98 = .ok (.aload_n 3, 1) := by decide +kernel
theorem dX3_next_99 : decode cX3_next 99 = .ok (.getfield 44, 3) := by decide +kernel
theorem dX3_next_102 : decode cX3_next 102 = .ok (.ifCond .eq 18, 3) := by decide +kernel
theorem dX3_next_105 : decode cX3_next 105 = .ok (.aload_n 0, 1) := by decide +kernel
theorem dX3_next_106 : decode cX3_next 106 = .ok (.getfield 27, 3) := by decide +kernel
theorem dX3_next_109 : decode cX3_next 109 = .ok (.aload_n 0, 1) := by decide +kernel
theorem dX3_next_110 : decode cX3_next 110 = .ok (.getfield 21, 3) := by decide +kernel
theorem dX3_next_113 : decode cX3_next 113 = .ok (.iload_n 2, 1) := by decide +kernel
theorem dX3_next_114 : decode cX3_next 114 = .ok (.laload, 1) := by decide +kernel
theorem dX3_next_115 : decode cX3_next 115 = .ok (.bipush 7, 2) := by decide +kernel
theorem dX3_next_117 : decode cX3_next 117 = .ok (.invokevirtual 62, 3) := by decide +kernel
theorem dX3_next_120 : decode cX3_next 120 = .ok (.aload_n 0, 1) := by decide +kernel
theorem dX3_next_121 : decode cX3_next 121 = .ok (.getfield 27, 3) := by decide +kernel
theorem dX3_next_124 : decode cX3_next 124 = .ok (.areturn, 1) := by decide +kernel
theorem dX3_nextWasSent_0 : decode cX3_nextWasSent 0 = .ok (.aload_n 0, 1) := by decide +kernel
theorem dX3_nextWasSent_1 : decode cX3_nextWasSent 1 = .ok (.dup, 1) := by decide +kernel
theorem dX3_nextWasSent_2 : decode cX3_nextWasSent 2 = .ok (.getfield 35, 3) := by decide +kernel
theorem dX3_nextWasSent_5 : decode cX3_nextWasSent 5 = .ok (.iconst 1, 1) := by decide +kernel
theorem dX3_nextWasSent_6 : decode cX3_nextWasSent 6 = .ok (.iadd, 1) := by decide +kernel
theorem dX3_nextWasSent_7 : decode cX3_nextWasSent 7 = .ok (.putfield 35, 3) := by decide +kernel
theorem dX3_nextWasSent_10 : decode cX3_nextWasSent 10 = .ok (.return_, 1) := by decide +kernel
theorem dX3_dropEldest_0 : decode cX3_dropEldest 0 = .ok (.aload_n 0, 1) := by decide +kernel
theorem dX3_dropEldest_1 : decode cX3_dropEldest 1 = .ok (.getfield 35, 3) := by decide +kernel
theorem dX3_dropEldest_4 : decode cX3_dropEldest 4 = .ok (.ifCond .le 36, 3) := by decide +kernel
theorem dX3_dropEldest_7 : decode cX3_dropEldest 7 = .ok (.aload_n 0, 1) := by decide +kernel
theorem dX3_dropEldest_8 : decode cX3_dropEldest 8 = .ok (.aload_n 0, 1) := by decide +kernel
theorem dX3_dropEldest_9 : decode cX3_dropEldest 9 = .ok (.getfield 38, 3) := by decide +kernel
theorem dX3_dropEldest_12 : decode cX3_dropEldest 12 = .ok (.iconst 1, 1) := by decide +kernel
theorem dX3_dropEldest_13 : decode cX3_dropEldest 13 = .ok (.iadd, 1) := by decide +kernel
theorem dX3_dropEldest_14 : decode cX3_dropEldest 14 = .ok (.bipush 52, 2) := by decide +kernel
theorem dX3_dropEldest_16 : decode cX3_dropEldest 16 = .ok (.irem, 1) := by decide +kernel
theorem dX3_dropEldest_17 : decode cX3_dropEldest 17 = .ok (.putfield 38, 3) := by decide +kernel
theorem dX3_dropEldest_20 : decode cX3_dropEldest 20 = .ok (.aload_n 0, 1) := by decide +kernel
theorem dX3_dropEldest_21 : decode cX3_dropEldest 21 = .ok (.dup, 1) := by decide +kernel
theorem dX3_dropEldest_22 : decode cX3_dropEldest 22 = .ok (.getfield 31, 3) := by decide +kernel
theorem dX3_dropEldest_25 : decode cX3_dropEldest 25 = .ok (.iconst 1, 1) := by decide +kernel
theorem dX3_dropEldest_26 : decode cX3_dropEldest 26 = .ok (.isub, 1) := by decide +kernel
theorem dX3_dropEldest_27 : decode cX3_dropEldest 27 = .ok (.putfield 31, 3) := by decide +kernel
theorem dX3_dropEldest_30 : decode cX3_dropEldest 30 = .ok (.aload_n 0, 1) := by decide +kernel
theorem dX3_dropEldest_31 : decode cX3_dropEldest 31 = .ok (.dup, 1) := by decide +kernel
theorem dX3_dropEldest_32 : decode cX3_dropEldest 32 = .ok (.getfield 35, 3) := by decide +kernel
theorem dX3_dropEldest_35 : decode cX3_dropEldest 35 = .ok (.iconst 1, 1) := by decide +kernel
theorem dX3_dropEldest_36 : decode cX3_dropEldest 36 = .ok (.isub, 1) := by decide +kernel
theorem dX3_dropEldest_37 : decode cX3_dropEldest 37 = .ok (.putfield 35, 3) := by decide +kernel
theorem dX3_dropEldest_40 : decode cX3_dropEldest 40 = .ok (.return_, 1) := by decide +kernel
theorem dX3_waitAgain_0 : decode cX3_waitAgain 0 = .ok (.aload_n 0, 1) := by decide +kernel
theorem dX3_waitAgain_1 : decode cX3_waitAgain 1 = .ok (.iconst 0, 1) := by decide +kernel
theorem dX3_waitAgain_2 : decode cX3_waitAgain 2 = .ok (.putfield 35, 3) := by decide +kernel
theorem dX3_waitAgain_5 : decode cX3_waitAgain 5 = .ok (.return_, 1) := by decide +kernel
theorem dX4_init_0 : decode cX4_init 0 = .ok (.aload_n 0, 1) := by decide +kernel
theorem dX4_init_1 : decode cX4_init 1 = .ok (.invokespecial 3, 3) := by decide +kernel
theorem dX4_init_4 : decode cX4_init 4 = .ok (.aload_n 0, 1) := by decide +kernel
theorem dX4_init_5 : decode cX4_init 5 = .ok (.sipush 249, 3) := by decide +kernel
theorem dX4_init_8 : decode cX4_init 8 = .ok (.newarray .byte, 2) := by decide +kernel
theorem dX4_init_10 : decode cX4_init 10 = .ok (.putfield 9, 3) := by decide +kernel
theorem dX4_init_13 : decode cX4_init 13 = .ok (.return_, 1) := by decide +kernel
theorem dX4_clear_0 : decode cX4_clear 0 = .ok (.aload_n 0, 1) := by decide +kernel
theorem dX4_clear_1 : decode cX4_clear 1 = .ok (.iconst 0, 1) := by decide +kernel
theorem dX4_clear_2 : decode cX4_clear 2 = .ok (.putfield 15, 3) := by decide +kernel
theorem dX4_clear_5 : decode cX4_clear 5 = .ok (.return_, 1) := by decide +kernel
theorem dX4_add_0 : decode cX4_add 0 = .ok (.iconst 0, 1) := by decide +kernel
theorem dX4_add_1 : decode cX4_add 1 = .ok (.istore 4, 2) := by decide +kernel
theorem dX4_add_3 : decode cX4_add 3 = .ok (.iload 4, 2) := by decide +kernel
theorem dX4_add_5 : decode cX4_add 5 = .ok (.iload_n 3, 1) := by decide +kernel
theorem dX4_add_6 : decode cX4_add 6 = .ok (.if_icmp .ge 54, 3) := by decide +kernel
theorem dX4_add_9 : decode cX4_add 9 = .ok (.aload_n 0, 1) := by decide +kernel
theorem dX4_add_10 : decode cX4_add 10 = .ok (.getfield 15, 3) := by decide +kernel
theorem dX4_add_13 : decode cX4_add 13 = .ok (.ifCond .lt 47, 3) := by decide +kernel
theorem dX4_add_16 : decode cX4_add 16 = .ok (.aload_n 0, 1) := by decide +kernel
theorem dX4_add_17 : decode cX4_add 17 = .ok (.getfield 15, 3) := by decide +kernel
theorem dX4_add_20 : decode cX4_add 20 = .ok (.sipush 249, 3) := by decide +kernel
theorem dX4_add_23 : decode cX4_add 23 = .ok (.if_icmp .ge 37, 3) := by decide +kernel
theorem dX4_add_26 : decode cX4_add 26 = .ok (.aload_n 0, 1) := by decide +kernel
theorem dX4_add_27 : decode cX4_add 27 = .ok (.getfield 9, 3) := by decide +kernel
theorem dX4_add_30 : decode cX4_add 30 = .ok (.aload_n 0, 1) := by decide +kernel
theorem dX4_add_31 : decode cX4_add 31 = .ok (.getfield 15, 3) := by decide +kernel
theorem dX4_add_34 : decode cX4_add 34 = .ok (.lload_n 1, 1) := by decide +kernel
theorem dX4_add_35 : decode cX4_add 35 = .ok (.bipush 8, 2) := by decide +kernel
theorem dX4_add_37 : decode cX4_add 37 = .ok (.iload 4, 2) := by decide +kernel
theorem dX4_add_39 : decode cX4_add 39 = .ok (.imul, 1) := by decide +kernel
theorem dX4_add_40 : decode cX4_add 40 = .ok (.lshr, 1) := by decide +kernel
theorem dX4_add_41 : decode cX4_add 41 = .ok (.l2i, 1) := by decide +kernel
theorem dX4_add_42 : decode cX4_add 42 = .ok (.i2b, 1) := by decide +kernel
theorem dX4_add_43 : decode cX4_add 43 = .ok (.bastore, 1) := by decide +kernel
theorem dX4_add_44 : decode cX4_add 44 = .ok (.aload_n 0, 1) := by decide +kernel
theorem dX4_add_45 : decode cX4_add 45 = .ok (.dup, 1) := by decide +kernel
theorem dX4_add_46 : decode cX4_add 46 = .ok (.getfield 15, 3) := by decide +kernel
theorem dX4_add_49 : decode cX4_add 49 = .ok (.iconst 1, 1) := by decide +kernel
theorem dX4_add_50 : decode cX4_add 50 = .ok (.iadd, 1) := by decide +kernel
theorem dX4_add_51 : decode cX4_add 51 = .ok (.putfield 15, 3) := by decide +kernel
theorem dX4_add_54 : decode cX4_add 54 = .ok (.iinc 4 1, 3) := by decide +kernel
theorem dX4_add_57 : decode cX4_add 57 = .ok (.goto (-54), 3) := by decide +kernel
theorem dX4_add_60 : decode cX4_add 60 = .ok (.return_, 1) := by decide +kernel
theorem dX4_copy_0 : decode cX4_copy 0 = .ok (.aload_n 0, 1) := by decide +kernel
theorem dX4_copy_1 : decode cX4_copy 1 = .ok (.iconst 0, 1) := by decide +kernel
theorem dX4_copy_2 : decode cX4_copy 2 = .ok (.aload_n 1, 1) := by decide +kernel
theorem dX4_copy_3 : decode cX4_copy 3 = .ok (.getfield 15, 3) := by decide +kernel
theorem dX4_copy_6 : decode cX4_copy 6 = .ok (.sipush 249, 3) := by decide +kernel
theorem dX4_copy_9 : decode cX4_copy 9 = .ok (.invokestatic 19, 3) := by decide +kernel
theorem dX4_copy_12 : decode cX4_copy 12 = .ok (.invokestatic 25, 3) := by decide +kernel
theorem dX4_copy_15 : decode cX4_copy 15 = .ok (.putfield 15, 3) := by decide +kernel
theorem dX4_copy_18 : decode cX4_copy 18 = .ok (.aload_n 1, 1) := by decide +kernel
theorem dX4_copy_19 : decode cX4_copy 19 = .ok (.getfield 9, 3) := by decide +kernel
theorem dX4_copy_22 : decode cX4_copy 22 = .ok (.iconst 0, 1) := by decide +kernel
theorem dX4_copy_23 : decode cX4_copy 23 = .ok (.aload_n 0, 1) := by decide +kernel
theorem dX4_copy_24 : decode cX4_copy 24 = .ok (.getfield 9, 3) := by decide +kernel
theorem dX4_copy_27 : decode cX4_copy 27 = .ok (.iconst 0, 1) := by decide +kernel
theorem dX4_copy_28 : decode cX4_copy 28 = .ok (.aload_n 0, 1) := by decide +kernel
theorem dX4_copy_29 : decode cX4_copy 29 = .ok (.getfield 15, 3) := by decide +kernel
theorem dX4_copy_32 : decode cX4_copy 32 = .ok (.invokestatic 28, 3) := by decide +kernel
theorem dX4_copy_35 : decode cX4_copy 35 = .ok (.return_, 1) := by decide +kernel
theorem dX4_replace_0 : decode cX4_replace 0 = .ok (.iload_n 1, 1) := by decide +kernel
theorem dX4_replace_1 : decode cX4_replace 1 = .ok (.ifCond .lt 26, 3) := by decide +kernel
theorem dX4_replace_4 : decode cX4_replace 4 = .ok (.iload_n 1, 1) := by decide +kernel
theorem dX4_replace_5 : decode cX4_replace 5 = .ok (.aload_n 0, 1) := by decide +kernel
theorem dX4_replace_6 : decode cX4_replace 6 = .ok (.getfield 15, 3) := by decide +kernel
theorem dX4_replace_9 : decode cX4_replace 9 = .ok (.if_icmp .ge 18, 3) := by decide +kernel
theorem dX4_replace_12 : decode cX4_replace 12 = .ok (.iload_n 1, 1) := by decide +kernel
theorem dX4_replace_13 : decode cX4_replace 13 = .ok (.sipush 249, 3) := by decide +kernel
theorem dX4_replace_16 : decode cX4_replace 16 = .ok (.if_icmp .ge 11, 3) := by decide +kernel
theorem dX4_replace_19 : decode cX4_replace 19 = .ok (.aload_n 0, 1) := by decide +kernel
theorem dX4_replace_20 : decode cX4_replace 20 = .ok (.getfield 9, 3) := by decide +kernel
theorem dX4_replace_23 : decode cX4_replace 23 = .ok (.iload_n 1, 1) := by decide +kernel
theorem dX4_replace_24 : decode cX4_replace 24 = .ok (.iload_n 2, 1) := by decide +kernel
theorem dX4_replace_25 : decode cX4_replace 25 = .ok (.i2b, 1) := by decide +kernel
theorem dX4_replace_26 : decode cX4_replace 26 = .ok (.bastore, 1) := by decide +kernel
theorem dX4_replace_27 : decode cX4_replace 27 = .ok (.return_, 1) := by decide +kernel
theorem dX4_at_0 : decode cX4_at 0 = .ok (.iload_n 1, 1) := by decide +kernel
theorem dX4_at_1 : decode cX4_at 1 = .ok (.ifCond .lt 18, 3) := by decide +kernel
theorem dX4_at_4 : decode cX4_at 4 = .ok (.iload_n 1, 1) := by decide +kernel
theorem dX4_at_5 : decode cX4_at 5 = .ok (.aload_n 0, 1) := by decide +kernel
theorem dX4_at_6 : decode cX4_at 6 = .ok (.getfield 15, 3) := by decide +kernel
theorem dX4_at_9 : decode cX4_at 9 = .ok (.if_icmp .ge 10, 3) := by decide +kernel
theorem dX4_at_12 : decode cX4_at 12 = .ok (.iload_n 1, 1) := by decide +kernel
theorem dX4_at_13 : decode cX4_at 13 = .ok (.sipush 249, 3) := by decide +kernel
theorem dX4_at_16 : decode cX4_at 16 = .ok (.if_icmp .lt 7, 3) := by decide +kernel
theorem dX4_at_19 : decode cX4_at 19 = .ok (.iconst 0, 1) := by decide +kernel
theorem dX4_at_20 : decode cX4_at 20 = .ok (.goto 13, 3) := by decide +kernel
theorem dX4_at_23 : decode cX4_at 23 = .ok (.aload_n 0, 1) := by decide +kernel
theorem dX4_at_24 : decode cX4_at 24 = .ok (.getfield 9, 3) := by decide +kernel
theorem dX4_at_27 : decode cX4_at 27 = .ok (.iload_n 1, 1) := by decide +kernel
theorem dX4_at_28 : decode cX4_at 28 = .ok (.baload, 1) := by decide +kernel
theorem dX4_at_29 : decode cX4_at 29 = .ok (.sipush 255, 3) := by decide +kernel
theorem dX4_at_32 : decode cX4_at 32 = .ok (.iand, 1) := by decide +kernel
theorem dX4_at_33 : decode cX4_at 33 = .ok (.ireturn, 1) := by decide +kernel
theorem dX4_number_0 : decode cX4_number 0 = .ok (.lconst 0, 1) := by decide +kernel
theorem dX4_number_1 : decode cX4_number 1 = .ok (.lstore_n 3, 1) := by decide +kernel
theorem dX4_number_2 : decode cX4_number 2 = .ok (.iload_n 2, 1) := by decide +kernel
theorem dX4_number_3 : decode cX4_number 3 = .ok (.iconst 1, 1) := by decide +kernel
theorem dX4_number_4 : decode cX4_number 4 = .ok (.isub, 1) := by decide +kernel
theorem dX4_number_5 : decode cX4_number 5 = .ok (.istore 5, 2) := by decide +kernel
theorem dX4_number_7 : decode cX4_number 7 = .ok (.iload 5, 2) := by decide +kernel
theorem dX4_number_9 : decode cX4_number 9 = .ok (.ifCond .lt 24, 3) := by decide +kernel
theorem dX4_number_12 : decode cX4_number 12 = .ok (.lload_n 3, 1) := by decide +kernel
theorem dX4_number_13 : decode cX4_number 13 = .ok (.bipush 8, 2) := by decide +kernel
theorem dX4_number_15 : decode cX4_number 15 = .ok (.lshl, 1) := by decide +kernel
theorem dX4_number_16 : decode cX4_number 16 = .ok (.aload_n 0, 1) := by decide +kernel
theorem dX4_number_17 : decode cX4_number 17 = .ok (.iload_n 1, 1) := by decide +kernel
theorem dX4_number_18 : decode cX4_number 18 = .ok (.iload 5, 2) := by decide +kernel
theorem dX4_number_20 : decode cX4_number 20 = .ok (.iadd, 1) := by decide +kernel
theorem dX4_number_21 : decode cX4_number 21 = .ok (.invokevirtual 34, 3) := by decide +kernel
theorem dX4_number_24 : decode cX4_number 24 = .ok (.i2l, 1) := by decide +kernel
theorem dX4_number_25 : decode cX4_number 25 = .ok (.lor, 1) := by decide +kernel
theorem dX4_number_26 : decode cX4_number 26 = .ok (.lstore_n 3, 1) := by decide +kernel
theorem dX4_number_27 : decode cX4_number 27 = .ok (.iinc 5 (-1), 3) := by decide +kernel
theorem dX4_number_30 : decode cX4_number 30 = .ok (.goto (-23), 3) := by decide +kernel
theorem dX4_number_33 : decode cX4_number 33 = .ok (.lload_n 3, 1) := by decide +kernel
theorem dX4_number_34 : decode cX4_number 34 = .ok (.lreturn, 1) := by decide +kernel
theorem dX4_address_0 : decode cX4_address 0 = .ok (.aload_n 0, 1) := by decide +kernel
theorem dX4_address_1 : decode cX4_address 1 = .ok (.bipush 6, 2) := by decide +kernel
theorem dX4_address_3 : decode cX4_address 3 = .ok (.iconst 3, 1) := by decide +kernel
theorem dX4_address_4 : decode cX4_address 4 = .ok (.invokevirtual 38, 3) := by decide +kernel
theorem dX4_address_7 : decode cX4_address 7 = .ok (.l2i, 1) := by decide +kernel
theorem dX4_address_8 : decode cX4_address 8 = .ok (.ireturn, 1) := by decide +kernel
theorem dX5_init_0 : decode cX5_init 0 = .ok (.aload_n 0, 1) := by decide +kernel
theorem dX5_init_1 : decode cX5_init 1 = .ok (.invokespecial 3, 3) := by decide +kernel
theorem dX5_init_4 : decode cX5_init 4 = .ok (.aload_n 0, 1) := by decide +kernel
theorem dX5_init_5 : decode cX5_init 5 = .ok (.sipush 4096, 3) := by decide +kernel
theorem dX5_init_8 : decode cX5_init 8 = .ok (.newarray .byte, 2) := by decide +kernel
theorem dX5_init_10 : decode cX5_init 10 = .ok (.putfield 9, 3) := by decide +kernel
theorem dX5_init_13 : decode cX5_init 13 = .ok (.return_, 1) := by decide +kernel
theorem dX5_clear_0 : decode cX5_clear 0 = .ok (.aload_n 0, 1) := by decide +kernel
theorem dX5_clear_1 : decode cX5_clear 1 = .ok (.iconst 0, 1) := by decide +kernel
theorem dX5_clear_2 : decode cX5_clear 2 = .ok (.putfield 15, 3) := by decide +kernel
theorem dX5_clear_5 : decode cX5_clear 5 = .ok (.aload_n 0, 1) := by decide +kernel
theorem dX5_clear_6 : decode cX5_clear 6 = .ok (.iconst 0, 1) := by decide +kernel
theorem dX5_clear_7 : decode cX5_clear 7 = .ok (.putfield 19, 3) := by decide +kernel
theorem dX5_clear_10 : decode cX5_clear 10 = .ok (.return_, 1) := by decide +kernel
theorem dX5_add_0 : decode cX5_add 0 = .ok (.aload_n 0, 1) := by decide +kernel
theorem dX5_add_1 : decode cX5_add 1 = .ok (.getfield 19, 3) := by decide +kernel
theorem dX5_add_4 : decode cX5_add 4 = .ok (.sipush 4096, 3) := by decide +kernel
theorem dX5_add_7 : decode cX5_add 7 = .ok (.if_icmp .ge 33, 3) := by decide +kernel
theorem dX5_add_10 : decode cX5_add 10 = .ok (.aload_n 0, 1) := by decide +kernel
theorem dX5_add_11 : decode cX5_add 11 = .ok (.getfield 9, 3) := by decide +kernel
theorem dX5_add_14 : decode cX5_add 14 = .ok (.aload_n 0, 1) := by decide +kernel
theorem dX5_add_15 : decode cX5_add 15 = .ok (.getfield 15, 3) := by decide +kernel
theorem dX5_add_18 : decode cX5_add 18 = .ok (.aload_n 0, 1) := by decide +kernel
theorem dX5_add_19 : decode cX5_add 19 = .ok (.getfield 19, 3) := by decide +kernel
theorem dX5_add_22 : decode cX5_add 22 = .ok (.iadd, 1) := by decide +kernel
theorem dX5_add_23 : decode cX5_add 23 = .ok (.sipush 4096, 3) := by decide +kernel
theorem dX5_add_26 : decode cX5_add 26 = .ok (.irem, 1) := by decide +kernel
theorem dX5_add_27 : decode cX5_add 27 = .ok (.iload_n 1, 1) := by decide +kernel
theorem dX5_add_28 : decode cX5_add 28 = .ok (.i2b, 1) := by decide +kernel
theorem dX5_add_29 : decode cX5_add 29 = .ok (.bastore, 1) := by decide +kernel
theorem dX5_add_30 : decode cX5_add 30 = .ok (.aload_n 0, 1) := by decide +kernel
theorem dX5_add_31 : decode cX5_add 31 = .ok (.dup, 1) := by decide +kernel
theorem dX5_add_32 : decode cX5_add 32 = .ok (.getfield 19, 3) := by decide +kernel
theorem dX5_add_35 : decode cX5_add 35 = .ok (.iconst 1, 1) := by decide +kernel
theorem dX5_add_36 : decode cX5_add 36 = .ok (.iadd, 1) := by decide +kernel
theorem dX5_add_37 : decode cX5_add 37 = .ok (.putfield 19, 3) := by decide +kernel
theorem dX5_add_40 : decode cX5_add 40 = .ok (.return_, 1) := by decide +kernel
theorem dX5_at_0 : decode cX5_at 0 = .ok (.iload_n 1, 1) := by decide +kernel
theorem dX5_at_1 : decode cX5_at 1 = .ok (.ifCond .lt 11, 3) := by decide +kernel
theorem dX5_at_4 : decode cX5_at 4 = .ok (.iload_n 1, 1) := by decide +kernel
theorem dX5_at_5 : decode cX5_at 5 = .ok (.aload_n 0, 1) := by decide +kernel
theorem dX5_at_6 : decode cX5_at 6 = .ok (.getfield 19, 3) := by decide +kernel
theorem dX5_at_9 : decode cX5_at 9 = .ok (.if_icmp .lt 7, 3) := by decide +kernel
theorem dX5_at_12 : decode cX5_at 12 = .ok (.iconst 0, 1) := by decide +kernel
theorem dX5_at_13 : decode cX5_at 13 = .ok (.goto 22, 3) := by decide +kernel
theorem dX5_at_16 : decode cX5_at 16 = .ok (.aload_n 0, 1) := by decide +kernel
theorem dX5_at_17 : decode cX5_at 17 = .ok (.getfield 9, 3) := by decide +kernel
theorem dX5_at_20 : decode cX5_at 20 = .ok (.aload_n 0, 1) := by decide +kernel
theorem dX5_at_21 : decode cX5_at 21 = .ok (.getfield 15, 3) := by decide +kernel
theorem dX5_at_24 : decode cX5_at 24 = .ok (.iload_n 1, 1) := by decide +kernel
theorem dX5_at_25 : decode cX5_at 25 = .ok (.iadd, 1) := by decide +kernel
theorem dX5_at_26 : decode cX5_at 26 = .ok (.sipush 4096, 3) := by decide +kernel
theorem dX5_at_29 : decode cX5_at 29 = .ok (.irem, 1) := by decide +kernel
theorem dX5_at_30 : decode cX5_at 30 = .ok (.baload, 1) := by decide +kernel
theorem dX5_at_31 : decode cX5_at 31 = .ok (.sipush 255, 3) := by decide +kernel
theorem dX5_at_34 : decode cX5_at 34 = .ok (.iand, 1) := by decide +kernel
theorem dX5_at_35 : decode cX5_at 35 = .ok (.ireturn, 1) := by decide +kernel
theorem dX5_dropFirst_0 : decode cX5_dropFirst 0 = .ok (.iload_n 1, 1) := by decide +kernel
theorem dX5_dropFirst_1 : decode cX5_dropFirst 1 = .ok (.ifCond .lt 35, 3) := by decide +kernel
theorem dX5_dropFirst_4 : decode cX5_dropFirst 4 = .ok (.iload_n 1, 1) := by decide +kernel
theorem dX5_dropFirst_5 : decode cX5_dropFirst 5 = .ok (.aload_n 0, 1) := by decide +kernel
theorem dX5_dropFirst_6 : decode cX5_dropFirst 6 = .ok (.getfield 19, 3) := by decide +kernel
theorem dX5_dropFirst_9 : decode cX5_dropFirst 9 = .ok (.if_icmp .gt 27, 3) := by decide +kernel
theorem dX5_dropFirst_12 : decode cX5_dropFirst 12 = .ok (.aload_n 0, 1) := by decide +kernel
theorem dX5_dropFirst_13 : decode cX5_dropFirst 13 = .ok (.aload_n 0, 1) := by decide +kernel
theorem dX5_dropFirst_14 : decode cX5_dropFirst 14 = .ok (.getfield 15, 3) := by decide +kernel
theorem dX5_dropFirst_17 : decode cX5_dropFirst 17 = .ok (.iload_n 1, 1) := by decide +kernel
theorem dX5_dropFirst_18 : decode cX5_dropFirst 18 = .ok (.iadd, 1) := by decide +kernel
theorem dX5_dropFirst_19 : decode cX5_dropFirst 19 = .ok (.sipush 4096, 3) := by decide +kernel
theorem dX5_dropFirst_22 : decode cX5_dropFirst 22 = .ok (.irem, 1) := by decide +kernel
theorem dX5_dropFirst_23 : decode cX5_dropFirst 23 = .ok (.putfield 15, 3) := by decide +kernel
theorem dX5_dropFirst_26 : decode cX5_dropFirst 26 = .ok (.aload_n 0, 1) := by decide +kernel
theorem dX5_dropFirst_27 : decode cX5_dropFirst 27 = .ok (.dup, 1) := by decide +kernel
theorem dX5_dropFirst_28 : decode cX5_dropFirst 28 = .ok (.getfield 19, 3) := by decide +kernel
theorem dX5_dropFirst_31 : decode cX5_dropFirst 31 = .ok (.iload_n 1, 1) := by decide +kernel
theorem dX5_dropFirst_32 : decode cX5_dropFirst 32 = .ok (.isub, 1) := by decide +kernel
theorem dX5_dropFirst_33 : decode cX5_dropFirst 33 = .ok (.putfield 19, 3) := by decide +kernel
theorem dX5_dropFirst_36 : decode cX5_dropFirst 36 = .ok (.return_, 1) := by decide +kernel
theorem dX6_init_0 : decode cX6_init 0 = .ok (.aload_n 0, 1) := by decide +kernel
theorem dX6_init_1 : decode cX6_init 1 = .ok (.invokespecial 3, 3) := by decide +kernel
theorem dX6_init_4 : decode cX6_init 4 = .ok (.aload_n 0, 1) := by decide +kernel
theorem dX6_init_5 : decode cX6_init 5 = .ok (.iload_n 1, 1) := by decide +kernel
theorem dX6_init_6 : decode cX6_init 6 = .ok (.putfield 9, 3) := by decide +kernel
theorem dX6_init_9 : decode cX6_init 9 = .ok (.aload_n 0, 1) := by decide +kernel
theorem dX6_init_10 : decode cX6_init 10 = .ok (.iload_n 2, 1) := by decide +kernel
theorem dX6_init_11 : decode cX6_init 11 = .ok (.putfield 15, 3) := by decide +kernel
theorem dX6_init_14 : decode cX6_init 14 = .ok (.aload_n 0, 1) := by decide +kernel
theorem dX6_init_15 : decode cX6_init 15 = .ok (.iload_n 3, 1) := by decide +kernel
theorem dX6_init_16 : decode cX6_init 16 = .ok (.putfield 18, 3) := by decide +kernel
theorem dX6_init_19 : decode cX6_init 19 = .ok (.aload_n 0, 1) := by decide +kernel
theorem dX6_init_20 : decode cX6_init 20 = .ok (.iload 4, 2) := by decide +kernel
theorem dX6_init_22 : decode cX6_init 22 = .ok (.putfield 21, 3) := by decide +kernel
theorem dX6_init_25 : decode cX6_init 25 = .ok (.return_, 1) := by decide +kernel
theorem dX6_fits_0 : decode cX6_fits 0 = .ok (.iload_n 1, 1) := by decide +kernel
theorem dX6_fits_1 : decode cX6_fits 1 = .ok (.getstatic 25, 3) := by decide +kernel
theorem dX6_fits_4 : decode cX6_fits 4 = .ok (.aload_n 0, 1) := by decide +kernel
theorem dX6_fits_5 : decode cX6_fits 5 = .ok (.getfield 9, 3) := by decide +kernel
theorem dX6_fits_8 : decode cX6_fits 8 = .ok (.iaload, 1) := by decide +kernel
theorem dX6_fits_9 : decode cX6_fits 9 = .ok (.if_icmp .lt 15, 3) := by decide +kernel
theorem dX6_fits_12 : decode cX6_fits 12 = .ok (.iload_n 1, 1) := by decide +kernel
theorem dX6_fits_13 : decode cX6_fits 13 = .ok (.getstatic 29, 3) := by decide +kernel
theorem dX6_fits_16 : decode cX6_fits 16 = .ok (.aload_n 0, 1) := by decide +kernel
theorem dX6_fits_17 : decode cX6_fits 17 = .ok (.getfield 9, 3) := by decide +kernel
theorem dX6_fits_20 : decode cX6_fits 20 = .ok (.iaload, 1) := by decide +kernel
theorem dX6_fits_21 : decode cX6_fits 21 = .ok (.if_icmp .le 5, 3) := by decide +kernel
theorem dX6_fits_24 : decode cX6_fits 24 = .ok (.iconst 0, 1) := by decide +kernel
theorem dX6_fits_25 : decode cX6_fits 25 = .ok (.ireturn, 1) := by decide +kernel
theorem dX6_fits_26 : decode cX6_fits 26 = .ok (.aload_n 0, 1) := by decide +kernel
theorem dX6_fits_27 : decode cX6_fits 27 = .ok (.getfield 9, 3) := by decide +kernel
theorem dX6_fits_30 : decode cX6_fits 30 = .ok (.iconst 5, 1) := by decide +kernel
theorem dX6_fits_31 : decode cX6_fits 31 = .ok (.if_icmp .ne 16, 3) := by decide +kernel
theorem dX6_fits_34 : decode cX6_fits 34 = .ok (.iload_n 1, 1) := by decide +kernel
theorem dX6_fits_35 : decode cX6_fits 35 = .ok (.ldc 32, 2) := by decide +kernel
theorem dX6_fits_37 : decode cX6_fits 37 = .ok (.iand, 1) := by decide +kernel
theorem dX6_fits_38 : decode cX6_fits 38 = .ok (.ldc 33, 2) := by decide +kernel
theorem dX6_fits_40 : decode cX6_fits 40 = .ok (.if_icmp .le 7, 3) := by decide +kernel
theorem dX6_fits_43 : decode cX6_fits 43 = .ok (.iconst 1, 1) := by decide +kernel
theorem dX6_fits_44 : decode cX6_fits 44 = .ok (.goto 4, 3) := by decide +kernel
theorem dX6_fits_47 : decode cX6_fits 47 = .ok (.iconst 0, 1) := by decide +kernel
theorem dX6_fits_48 : decode cX6_fits 48 = .ok (.istore_n 3, 1) := by decide +kernel
theorem dX6_fits_49 : decode cX6_fits 49 = .ok (.iload_n 3, 1) := by decide +kernel
theorem dX6_fits_50 : decode cX6_fits 50 = .ok (.ifCond .ne 22, 3) := by decide +kernel
theorem dX6_fits_53 : decode cX6_fits 53 = .ok (.iload_n 2, 1) := by decide +kernel
theorem dX6_fits_54 : decode cX6_fits 54 = .ok (.getstatic 34, 3) := by decide +kernel
theorem dX6_fits_57 : decode cX6_fits 57 = .ok (.aload_n 0, 1) := by decide +kernel
theorem dX6_fits_58 : decode cX6_fits 58 = .ok (.getfield 9, 3) := by decide +kernel
theorem dX6_fits_61 : decode cX6_fits 61 = .ok (.iaload, 1) := by decide +kernel
theorem dX6_fits_62 : decode cX6_fits 62 = .ok (.iconst (-1), 1) := by decide +kernel
theorem dX6_fits_63 : decode cX6_fits 63 = .ok (.ixor, 1) := by decide +kernel
theorem dX6_fits_64 : decode cX6_fits 64 = .ok (.iand, 1) := by decide +kernel
theorem dX6_fits_65 : decode cX6_fits 65 = .ok (.ifCond .ne 7, 3) := by decide +kernel
theorem dX6_fits_68 : decode cX6_fits 68 = .ok (.iconst 1, 1) := by decide +kernel
theorem dX6_fits_69 : decode cX6_fits 69 = .ok (.goto 4, 3) := by decide +kernel
theorem dX6_fits_72 : decode cX6_fits 72 = .ok (.iconst 0, 1) := by decide +kernel
theorem dX6_fits_73 : decode cX6_fits 73 = .ok (.ireturn, 1) := by decide +kernel
theorem dX6_isAskedBy_0 : decode cX6_isAskedBy 0 = .ok (.aload_n 0, 1) := by decide +kernel
theorem dX6_isAskedBy_1 : decode cX6_isAskedBy 1 = .ok (.getfield 9, 3) := by decide +kernel
theorem dX6_isAskedBy_4 : decode cX6_isAskedBy 4 = .ok (.bipush 6, 2) := by decide +kernel
theorem dX6_isAskedBy_6 : decode cX6_isAskedBy 6 = .ok (.if_icmp .eq 9, 3) := by decide +kernel
theorem dX6_isAskedBy_9 : decode cX6_isAskedBy 9 = .ok (.iload_n 1, 1) := by decide +kernel
theorem dX6_isAskedBy_10 : decode cX6_isAskedBy 10 = .ok (.bipush 37, 2) := by decide +kernel
theorem dX6_isAskedBy_12 : decode cX6_isAskedBy 12 = .ok (.if_icmp .ne 24, 3) := by decide +kernel
theorem dX6_isAskedBy_15 : decode cX6_isAskedBy 15 = .ok (.aload_n 0, 1) := by decide +kernel
theorem dX6_isAskedBy_16 : decode cX6_isAskedBy 16 = .ok (.getfield 9, 3) := by decide +kernel
theorem dX6_isAskedBy_19 : decode cX6_isAskedBy 19 = .ok (.bipush 6, 2) := by decide +kernel
theorem dX6_isAskedBy_21 : decode cX6_isAskedBy 21 = .ok (.if_icmp .ne 13, 3) := by decide +kernel
theorem dX6_isAskedBy_24 : decode cX6_isAskedBy 24 = .ok (.iload_n 1, 1) := by decide +kernel
theorem dX6_isAskedBy_25 : decode cX6_isAskedBy 25 = .ok (.bipush 37, 2) := by decide +kernel
theorem dX6_isAskedBy_27 : decode cX6_isAskedBy 27 = .ok (.if_icmp .ne 7, 3) := by decide +kernel
theorem dX6_isAskedBy_30 : decode cX6_isAskedBy 30 = .ok (.iconst 1, 1) := by decide +kernel
theorem dX6_isAskedBy_31 : decode cX6_isAskedBy 31 = .ok (.goto 4, 3) := by decide +kernel
theorem dX6_isAskedBy_34 : decode cX6_isAskedBy 34 = .ok (.iconst 0, 1) := by decide +kernel
theorem dX6_isAskedBy_35 : decode cX6_isAskedBy 35 = .ok (.ireturn, 1) := by decide +kernel
theorem dX6_isAskedBy_36 : decode cX6_isAskedBy 36 = .ok (.iload_n 1, 1) := by decide +kernel
theorem dX6_isAskedBy_37 : decode cX6_isAskedBy 37 = .ok (.bipush 20, 2) := by decide +kernel
theorem dX6_isAskedBy_39 : decode cX6_isAskedBy 39 = .ok (.if_icmp .eq 14, 3) := by decide +kernel
theorem dX6_isAskedBy_42 : decode cX6_isAskedBy 42 = .ok (.aload_n 0, 1) := by decide +kernel
theorem dX6_isAskedBy_43 : decode cX6_isAskedBy 43 = .ok (.getfield 18, 3) := by decide +kernel
theorem dX6_isAskedBy_46 : decode cX6_isAskedBy 46 = .ok (.iload_n 1, 1) := by decide +kernel
theorem dX6_isAskedBy_47 : decode cX6_isAskedBy 47 = .ok (.bipush 20, 2) := by decide +kernel
theorem dX6_isAskedBy_49 : decode cX6_isAskedBy 49 = .ok (.isub, 1) := by decide +kernel
theorem dX6_isAskedBy_50 : decode cX6_isAskedBy 50 = .ok (.if_icmp .ne 7, 3) := by decide +kernel
theorem dX6_isAskedBy_53 : decode cX6_isAskedBy 53 = .ok (.iconst 1, 1) := by decide +kernel
theorem dX6_isAskedBy_54 : decode cX6_isAskedBy 54 = .ok (.goto 4, 3) := by decide +kernel
theorem dX6_isAskedBy_57 : decode cX6_isAskedBy 57 = .ok (.iconst 0, 1) := by decide +kernel
theorem dX6_isAskedBy_58 : decode cX6_isAskedBy 58 = .ok (.ireturn, 1) := by decide +kernel
theorem dX6_objectBytes_0 : decode cX6_objectBytes 0 = .ok (.iconst 3, 1) := by decide +kernel
theorem dX6_objectBytes_1 : decode cX6_objectBytes 1 = .ok (.getstatic 37, 3) := by decide +kernel
theorem dX6_objectBytes_4 : decode cX6_objectBytes 4 = .ok (.aload_n 0, 1) := by decide +kernel
theorem dX6_objectBytes_5 : decode cX6_objectBytes 5 = .ok (.getfield 9, 3) := by decide +kernel
theorem dX6_objectBytes_8 : decode cX6_objectBytes 8 = .ok (.iaload, 1) := by decide +kernel
theorem dX6_objectBytes_9 : decode cX6_objectBytes 9 = .ok (.iadd, 1) := by decide +kernel
theorem dX6_objectBytes_10 : decode cX6_objectBytes 10 = .ok (.iconst 1, 1) := by decide +kernel
theorem dX6_objectBytes_11 : decode cX6_objectBytes 11 = .ok (.iadd, 1) := by decide +kernel
theorem dX6_objectBytes_12 : decode cX6_objectBytes 12 = .ok (.ireturn, 1) := by decide +kernel
theorem dX6_object_0 : decode cX6_object 0 = .ok (.aload_n 0, 1) := by decide +kernel
theorem dX6_object_1 : decode cX6_object 1 = .ok (.getfield 40, 3) := by decide +kernel
theorem dX6_object_4 : decode cX6_object 4 = .ok (.bipush 30, 2) := by decide +kernel
theorem dX6_object_6 : decode cX6_object 6 = .ok (.iand, 1) := by decide +kernel
theorem dX6_object_7 : decode cX6_object 7 = .ok (.iconst 3, 1) := by decide +kernel
theorem dX6_object_8 : decode cX6_object 8 = .ok (.ishl, 1) := by decide +kernel
theorem dX6_object_9 : decode cX6_object 9 = .ok (.istore_n 3, 1) := by decide +kernel
theorem dX6_object_10 : decode cX6_object 10 = .ok (.aload_n 0, 1) := by decide +kernel
theorem dX6_object_11 : decode cX6_object 11 = .ok (.getfield 9, 3) := by decide +kernel
theorem dX6_object_14 : decode cX6_object 14 = .ok (.bipush 6, 2) := by decide +kernel
theorem dX6_object_16 : decode cX6_object 16 = .ok (.if_icmp .ne 21, 3) := by decide +kernel
theorem dX6_object_19 : decode cX6_object 19 = .ok (.aload_n 0, 1) := by decide +kernel
theorem dX6_object_20 : decode cX6_object 20 = .ok (.getfield 40, 3) := by decide +kernel
theorem dX6_object_23 : decode cX6_object 23 = .ok (.bipush 16, 2) := by decide +kernel
theorem dX6_object_25 : decode cX6_object 25 = .ok (.iand, 1) := by decide +kernel
theorem dX6_object_26 : decode cX6_object 26 = .ok (.iconst 3, 1) := by decide +kernel
theorem dX6_object_27 : decode cX6_object 27 = .ok (.ishl, 1) := by decide +kernel
theorem dX6_object_28 : decode cX6_object 28 = .ok (.iload_n 2, 1) := by decide +kernel
theorem dX6_object_29 : decode cX6_object 29 = .ok (.bipush 31, 2) := by decide +kernel
theorem dX6_object_31 : decode cX6_object 31 = .ok (.iand, 1) := by decide +kernel
theorem dX6_object_32 : decode cX6_object 32 = .ok (.ior, 1) := by decide +kernel
theorem dX6_object_33 : decode cX6_object 33 = .ok (.istore_n 3, 1) := by decide +kernel
theorem dX6_object_34 : decode cX6_object 34 = .ok (.goto 34, 3) := by decide +kernel
theorem dX6_object_37 : decode cX6_object 37 = .ok (.aload_n 0, 1) := by decide +kernel
theorem dX6_object_38 : decode cX6_object 38 = .ok (.getfield 9, 3) := by decide +kernel
theorem dX6_object_41 : decode cX6_object 41 = .ok (.ifCond .eq 11, 3) := by decide +kernel
theorem dX6_object_44 : decode cX6_object 44 = .ok (.aload_n 0, 1) := by decide +kernel
theorem dX6_object_45 : decode cX6_object 45 = .ok (.getfield 9, 3) := by decide +kernel
theorem dX6_object_48 : decode cX6_object 48 = .ok (.iconst 1, 1) := by decide +kernel
theorem dX6_object_49 : decode cX6_object 49 = .ok (.if_icmp .ne 10, 3) := by decide +kernel
theorem dX6_object_52 : decode cX6_object 52 = .ok (.iload_n 3, 1) := by decide +kernel
theorem dX6_object_53 : decode cX6_object 53 = .ok (.iload_n 1, 1) := by decide +kernel
theorem dX6_object_54 : decode cX6_object 54 = .ok (.ior, 1) := by decide +kernel
theorem dX6_object_55 : decode cX6_object 55 = .ok (.istore_n 3, 1) := by decide +kernel
theorem dX6_object_56 : decode cX6_object 56 = .ok (.goto 12, 3) := by decide +kernel
theorem dX6_object_59 : decode cX6_object 59 = .ok (.iload_n 3, 1) := by decide +kernel
theorem dX6_object_60 : decode cX6_object 60 = .ok (.aload_n 0, 1) := by decide +kernel
theorem dX6_object_61 : decode cX6_object 61 = .ok (.getfield 40, 3) := by decide +kernel
theorem dX6_object_64 : decode cX6_object 64 = .ok (.iconst 1, 1) := by decide +kernel
theorem dX6_object_65 : decode cX6_object 65 = .ok (.iand, 1) := by decide +kernel
theorem dX6_object_66 : decode cX6_object 66 = .ok (.ior, 1) := by decide +kernel
theorem dX6_object_67 : decode cX6_object 67 = .ok (.istore_n 3, 1) := by decide +kernel
theorem dX6_object_68 : decode cX6_object 68 = .ok (.iload_n 1, 1) := by decide +kernel
theorem dX6_object_69 : decode cX6_object 69 = .ok (.i2l, 1) := by decide +kernel
theorem dX6_object_70 : decode cX6_object 70 = .ok (.getstatic 43, 3) := by decide +kernel
theorem dX6_object_73 : decode cX6_object 73 = .ok (.aload_n 0, 1) := by decide +kernel
theorem dX6_object_74 : decode cX6_object 74 = .ok (.getfield 9, 3) := by decide +kernel
theorem dX6_object_77 : decode cX6_object 77 = .ok (.laload, 1) := by decide +kernel
theorem dX6_object_78 : decode cX6_object 78 = .ok (.land, 1) := by decide +kernel
theorem dX6_object_79 : decode cX6_object 79 = .ok (.iload_n 3, 1) := by decide +kernel
theorem dX6_object_80 : decode cX6_object 80 = .ok (.i2l, 1) := by decide +kernel
theorem dX6_object_81 : decode cX6_object 81 = .ok (.bipush 8, 2) := by decide +kernel
theorem dX6_object_83 : decode cX6_object 83 = .ok (.getstatic 37, 3) := by decide +kernel
theorem dX6_object_86 : decode cX6_object 86 = .ok (.aload_n 0, 1) := by decide +kernel
theorem dX6_object_87 : decode cX6_object 87 = .ok (.getfield 9, 3) := by decide +kernel
theorem dX6_object_90 : decode cX6_object 90 = .ok (.iaload, 1) := by decide +kernel
theorem dX6_object_91 : decode cX6_object 91 = .ok (.imul, 1) := by decide +kernel
theorem dX6_object_92 : decode cX6_object 92 = .ok (.lshl, 1) := by decide +kernel
theorem dX6_object_93 : decode cX6_object 93 = .ok (.lor, 1) := by decide +kernel
theorem dX6_object_94 : decode cX6_object 94 = .ok (.lstore 4, 2) := by decide +kernel
theorem dX6_object_96 : decode cX6_object 96 = .ok (.aload_n 0, 1) := by decide +kernel
theorem dX6_object_97 : decode cX6_object 97 = .ok (.getfield 15, 3) := by decide +kernel
theorem dX6_object_100 : decode cX6_object 100 = .ok (.i2l, 1) := by decide +kernel
theorem dX6_object_101 : decode cX6_object 101 = .ok (.lload 4, 2) := by decide +kernel
theorem dX6_object_103 : decode cX6_object 103 = .ok (.bipush 24, 2) := by decide +kernel
theorem dX6_object_105 : decode cX6_object 105 = .ok (.lshl, 1) := by decide +kernel
theorem dX6_object_106 : decode cX6_object 106 = .ok (.lor, 1) := by decide +kernel
theorem dX6_object_107 : decode cX6_object 107 = .ok (.lreturn, 1) := by decide +kernel
theorem dX7_init_0 : decode cX7_init 0 = .ok (.aload_n 0, 1) := by decide +kernel
theorem dX7_init_1 : decode cX7_init 1 = .ok (.invokespecial 3, 3) := by decide +kernel
theorem dX7_init_4 : decode cX7_init 4 = .ok (.aload_n 0, 1) := by decide +kernel
theorem dX7_init_5 : decode cX7_init 5 = .ok (.bipush 24, 2) := by decide +kernel
theorem dX7_init_7 : decode cX7_init 7 = .ok (.anewarray 9, 3) := by decide +kernel
theorem dX7_init_10 : decode cX7_init 10 = .ok (.putfield 11, 3) := by decide +kernel
theorem dX7_init_13 : decode cX7_init 13 = .ok (.aload_n 0, 1) := by decide +kernel
theorem dX7_init_14 : decode cX7_init 14 = .ok (.bipush 24, 2) := by decide +kernel
theorem dX7_init_16 : decode cX7_init 16 = .ok (.anewarray 9, 3) := by decide +kernel
theorem dX7_init_19 : decode cX7_init 19 = .ok (.putfield 17, 3) := by decide +kernel
theorem dX7_init_22 : decode cX7_init 22 = .ok (.return_, 1) := by decide +kernel
theorem dX7_add_0 : decode cX7_add 0 = .ok (.aload_n 0, 1) := by decide +kernel
theorem dX7_add_1 : decode cX7_add 1 = .ok (.getfield 20, 3) := by decide +kernel
theorem dX7_add_4 : decode cX7_add 4 = .ok (.bipush 24, 2) := by decide +kernel
theorem dX7_add_6 : decode cX7_add 6 = .ok (.if_icmp .lt 4, 3) := by decide +kernel
theorem dX7_add_9 : decode cX7_add 9 = .ok (.return_, 1) := by decide +kernel
theorem dX7_add_10 : decode cX7_add 10 = .ok (.aload_n 0, 1) := by decide +kernel
theorem dX7_add_11 : decode cX7_add 11 = .ok (.getfield 11, 3) := by decide +kernel
theorem dX7_add_14 : decode cX7_add 14 = .ok (.aload_n 0, 1) := by decide +kernel
theorem dX7_add_15 : decode cX7_add 15 = .ok (.getfield 20, 3) := by decide +kernel
theorem dX7_add_18 : decode cX7_add 18 = .ok (.aload_n 1, 1) := by decide +kernel
theorem dX7_add_19 : decode cX7_add 19 = .ok (.aastore, 1) := by decide +kernel
theorem dX7_add_20 : decode cX7_add 20 = .ok (.aload_n 0, 1) := by decide +kernel
theorem dX7_add_21 : decode cX7_add 21 = .ok (.getfield 20, 3) := by decide +kernel
theorem dX7_add_24 : decode cX7_add 24 = .ok (.istore_n 2, 1) := by decide +kernel
theorem dX7_add_25 : decode cX7_add 25 = .ok (.aload_n 0, 1) := by decide +kernel
theorem dX7_add_26 : decode cX7_add 26 = .ok (.getfield 20, 3) := by decide +kernel
theorem dX7_add_29 : decode cX7_add 29 = .ok (.iconst 1, 1) := by decide +kernel
theorem dX7_add_30 : decode cX7_add 30 = .ok (.isub, 1) := by decide +kernel
theorem dX7_add_31 : decode cX7_add 31 = .ok (.istore_n 3, 1) := by decide +kernel
theorem dX7_add_32 : decode cX7_add 32 = .ok (.iload_n 3, 1) := by decide +kernel
theorem dX7_add_33 : decode cX7_add 33 = .ok (.ifCond .lt 53, 3) := by decide +kernel
theorem dX7_add_36 : decode cX7_add 36 = .ok (.aload_n 0, 1) := by decide +kernel
theorem dX7_add_37 : decode cX7_add 37 = .ok (.getfield 17, 3) := by decide +kernel
theorem dX7_add_40 : decode cX7_add 40 = .ok (.iload_n 3, 1) := by decide +kernel
theorem dX7_add_41 : decode cX7_add 41 = .ok (.aaload, 1) := by decide +kernel
theorem dX7_add_42 : decode cX7_add 42 = .ok (.ifnull 44, 3) := by decide +kernel
theorem dX7_add_45 : decode cX7_add 45 = .ok (.aload_n 0, 1) := by decide +kernel
theorem dX7_add_46 : decode cX7_add 46 = .ok (.getfield 17, 3) := by decide +kernel
theorem dX7_add_49 : decode cX7_add 49 = .ok (.iload_n 3, 1) := by decide +kernel
theorem dX7_add_50 : decode cX7_add 50 = .ok (.aaload, 1) := by decide +kernel
theorem dX7_add_51 : decode cX7_add 51 = .ok (.getfield 24, 3) := by decide +kernel
theorem dX7_add_54 : decode cX7_add 54 = .ok (.aload_n 1, 1) := by decide +kernel
theorem dX7_add_55 : decode cX7_add 55 = .ok (.getfield 24, 3) := by decide +kernel
theorem dX7_add_58 : decode cX7_add 58 = .ok (.if_icmp .ge 6, 3) := by decide +kernel
theorem dX7_add_61 : decode cX7_add 61 = .ok (.goto 25, 3) := by decide +kernel
theorem dX7_add_64 : decode cX7_add 64 = .ok (.aload_n 0, 1) := by decide +kernel
theorem dX7_add_65 : decode cX7_add 65 = .ok (.getfield 17, 3) := by decide +kernel
theorem dX7_add_68 : decode cX7_add 68 = .ok (.iload_n 3, 1) := by decide +kernel
theorem dX7_add_69 : decode cX7_add 69 = .ok (.iconst 1, 1) := by decide +kernel
theorem dX7_add_70 : decode cX7_add 70 = .ok (.iadd, 1) := by decide +kernel
theorem dX7_add_71 : decode cX7_add 71 = .ok (.aload_n 0, 1) := by decide +kernel
theorem dX7_add_72 : decode cX7_add 72 = .ok (.getfield 17, 3) := by decide +kernel
theorem dX7_add_75 : decode cX7_add 75 = .ok (.iload_n 3, 1) := by decide +kernel
theorem dX7_add_76 : decode cX7_add 76 = .ok (.aaload, 1) := by decide +kernel
theorem dX7_add_77 : decode cX7_add 77 = .ok (.aastore, 1) := by decide +kernel
theorem dX7_add_78 : decode cX7_add 78 = .ok (.iload_n 3, 1) := by decide +kernel
theorem dX7_add_79 : decode cX7_add 79 = .ok (.istore_n 2, 1) := by decide +kernel
theorem dX7_add_80 : decode cX7_add 80 = .ok (.iinc 3 (-1), 3) := by decide +kernel
theorem dX7_add_83 : decode cX7_add 83 = .ok (.goto (-51), 3) := by decide +kernel
theorem dX7_add_86 : decode cX7_add 86 = .ok (.aload_n 0, 1) := by decide +kernel
theorem dX7_add_87 : decode cX7_add 87 = .ok (.getfield 17, 3) := by decide +kernel
theorem dX7_add_90 : decode cX7_add 90 = .ok (.iload_n 2, 1) := by decide +kernel
theorem dX7_add_91 : decode cX7_add 91 = .ok (.aload_n 1, 1) := by decide +kernel
theorem dX7_add_92 : decode cX7_add 92 = .ok (.aastore, 1) := by decide +kernel
theorem dX7_add_93 : decode cX7_add 93 = .ok (.aload_n 0, 1) := by decide +kernel
theorem dX7_add_94 : decode cX7_add 94 = .ok (.dup, 1) := by decide +kernel
theorem dX7_add_95 : decode cX7_add 95 = .ok (.getfield 20, 3) := by decide +kernel
theorem dX7_add_98 : decode cX7_add 98 = .ok (.iconst 1, 1) := by decide +kernel
theorem dX7_add_99 : decode cX7_add 99 = .ok (.iadd, 1) := by decide +kernel
theorem dX7_add_100 : decode cX7_add 100 = .ok (.putfield 20, 3) := by decide +kernel
theorem dX7_add_103 : decode cX7_add 103 = .ok (.return_, 1) := by decide +kernel
theorem dX7_at_0 : decode cX7_at 0 = .ok (.iload_n 1, 1) := by decide +kernel
theorem dX7_at_1 : decode cX7_at 1 = .ok (.ifCond .lt 17, 3) := by decide +kernel
theorem dX7_at_4 : decode cX7_at 4 = .ok (.iload_n 1, 1) := by decide +kernel
theorem dX7_at_5 : decode cX7_at 5 = .ok (.aload_n 0, 1) := by decide +kernel
theorem dX7_at_6 : decode cX7_at 6 = .ok (.getfield 20, 3) := by decide +kernel
theorem dX7_at_9 : decode cX7_at 9 = .ok (.if_icmp .ge 9, 3) := by decide +kernel
theorem dX7_at_12 : decode cX7_at 12 = .ok (.iload_n 1, 1) := by decide +kernel
theorem dX7_at_13 : decode cX7_at 13 = .ok (.bipush 24, 2) := by decide +kernel
theorem dX7_at_15 : decode cX7_at 15 = .ok (.if_icmp .lt 7, 3) := by decide +kernel
theorem dX7_at_18 : decode cX7_at 18 = .ok (.aconst_null, 1) := by decide +kernel
theorem dX7_at_19 : decode cX7_at 19 = .ok (.goto 9, 3) := by decide +kernel
theorem dX7_at_22 : decode cX7_at 22 = .ok (.aload_n 0, 1) := by decide +kernel
theorem dX7_at_23 : decode cX7_at 23 = .ok (.getfield 11, 3) := by decide +kernel
theorem dX7_at_26 : decode cX7_at 26 = .ok (.iload_n 1, 1) := by decide +kernel
theorem dX7_at_27 : decode cX7_at 27 = .ok (.aaload, 1) := by decide +kernel
theorem dX7_at_28 : decode cX7_at 28 = .ok (.areturn, 1) := by decide +kernel
theorem dX7_atPlace_0 : decode cX7_atPlace 0 = .ok (.iload_n 1, 1) := by decide +kernel
theorem dX7_atPlace_1 : decode cX7_atPlace 1 = .ok (.ifCond .lt 17, 3) := by decide +kernel
theorem dX7_atPlace_4 : decode cX7_atPlace 4 = .ok (.iload_n 1, 1) := by decide +kernel
theorem dX7_atPlace_5 : decode cX7_atPlace 5 = .ok (.aload_n 0, 1) := by decide +kernel
theorem dX7_atPlace_6 : decode cX7_atPlace 6 = .ok (.getfield 20, 3) := by decide +kernel
theorem dX7_atPlace_9 : decode cX7_atPlace 9 = .ok (.if_icmp .ge 9, 3) := by decide +kernel
theorem dX7_atPlace_12 : decode cX7_atPlace 12 = .ok (.iload_n 1, 1) := by decide +kernel
theorem dX7_atPlace_13 : decode cX7_atPlace 13 = .ok (.bipush 24, 2) := by decide +kernel
theorem dX7_atPlace_15 : decode cX7_atPlace 15 = .ok (.if_icmp .lt 7, 3) := by decide +kernel
theorem dX7_atPlace_18 : decode cX7_atPlace 18 = .ok (.aconst_null, 1) := by decide +kernel
theorem dX7_atPlace_19 : decode cX7_atPlace 19 = .ok (.goto 9, 3) := by decide +kernel
theorem dX7_atPlace_22 : decode cX7_atPlace 22 = .ok (.aload_n 0, 1) := by decide +kernel
theorem dX7_atPlace_23 : decode cX7_atPlace 23 = .ok (.getfield 17, 3) := by decide +kernel
theorem dX7_atPlace_26 : decode cX7_atPlace 26 = .ok (.iload_n 1, 1) := by decide +kernel
theorem dX7_atPlace_27 : decode cX7_atPlace 27 = .ok (.aaload, 1) := by decide +kernel
theorem dX7_atPlace_28 : decode cX7_atPlace 28 = .ok (.areturn, 1) := by decide +kernel
theorem dX7_withAddress_0 : decode cX7_withAddress 0 = .ok (.iconst 0, 1) := by decide +kernel
theorem dX7_withAddress_1 : decode cX7_withAddress 1 = .ok (.istore_n 2, 1) := by decide +kernel
theorem dX7_withAddress_2 : decode cX7_withAddress 2 = .ok (.iload_n 2, 1) := by decide +kernel
theorem dX7_withAddress_3 : decode cX7_withAddress 3 = .ok (.aload_n 0, 1) := by decide +kernel
theorem dX7_withAddress_4 : decode cX7_withAddress 4 = .ok (.getfield 20, 3) := by decide +kernel
theorem dX7_withAddress_7 : decode cX7_withAddress 7 = .ok (.if_icmp .ge 36, 3) := by decide +kernel
theorem dX7_withAddress_10 : decode cX7_withAddress 10 = .ok (.iload_n 2, 1) := by decide +kernel
theorem dX7_withAddress_11 : decode cX7_withAddress 11 = .ok (.bipush 24, 2) := by decide +kernel
theorem dX7_withAddress_13 : decode cX7_withAddress 13 = .ok (.if_icmp .ge 30, 3) := by decide +kernel
theorem dX7_withAddress_16 : decode cX7_withAddress 16 = .ok (.aload_n 0, 1) := by decide +kernel
theorem dX7_withAddress_17 : decode cX7_withAddress 17 = .ok (.getfield 11, 3) := by decide +kernel
theorem dX7_withAddress_20 : decode cX7_withAddress 20 = .ok (.iload_n 2, 1) := by decide +kernel
theorem dX7_withAddress_21 : decode cX7_withAddress 21 = .ok (.aaload, 1) := by decide +kernel
theorem dX7_withAddress_22 : decode cX7_withAddress 22 = .ok (.astore_n 3, 1) := by decide +kernel
theorem dX7_withAddress_23 : decode cX7_withAddress 23 = .ok (.aload_n 3, 1) := by decide +kernel
theorem dX7_withAddress_24 : decode cX7_withAddress 24 = .ok (.ifnull 13, 3) := by decide +kernel
theorem dX7_withAddress_27 : decode cX7_withAddress 27 = .ok (.aload_n 3, 1) := by decide +kernel
theorem dX7_withAddress_28 : decode cX7_withAddress 28 = .ok (.getfield 24, 3) := by decide +kernel
theorem dX7_withAddress_31 : decode cX7_withAddress 31 = .ok (.iload_n 1, 1) := by decide +kernel
theorem dX7_withAddress_32 : decode cX7_withAddress 32 = .ok (.if_icmp .ne 5, 3) := by decide +kernel
theorem dX7_withAddress_35 : decode cX7_withAddress 35 = .ok (.aload_n 3, 1) := by decide +kernel
theorem dX7_withAddress_36 : decode cX7_withAddress 36 = .ok (.areturn, 1) := by decide +kernel
theorem dX7_withAddress_37 : decode cX7_withAddress 37 = .ok (.iinc 2 1, 3) := by decide +kernel
theorem dX7_withAddress_40 : decode cX7_withAddress 40 = .ok (.goto (-38), 3) := by decide +kernel
theorem dX7_withAddress_43 : decode cX7_withAddress 43 = .ok (.aconst_null, 1) := by decide +kernel
theorem dX7_withAddress_44 : decode cX7_withAddress 44 = .ok (.areturn, 1) := by decide +kernel
theorem dX7_freezeCounters_0 : decode cX7_freezeCounters 0 = .ok (.iconst 0, 1) := by decide +kernel
theorem dX7_freezeCounters_1 : decode cX7_freezeCounters 1 = .ok (.istore_n 1, 1) := by decide +kernel
theorem dX7_freezeCounters_2 : decode cX7_freezeCounters 2 = .ok (.iload_n 1, 1) := by decide +kernel
theorem dX7_freezeCounters_3 : decode cX7_freezeCounters 3 = .ok (.aload_n 0, 1) := by decide +kernel
theorem dX7_freezeCounters_4 : decode cX7_freezeCounters 4 = .ok (.getfield 20, 3) := by decide +kernel
theorem dX7_freezeCounters_7 : decode cX7_freezeCounters 7 = .ok (.if_icmp .ge 43, 3) := by decide +kernel
theorem dX7_freezeCounters_10 : decode cX7_freezeCounters 10 = .ok (.iload_n 1, 1) := by decide +kernel
theorem dX7_freezeCounters_11 : decode cX7_freezeCounters 11 = .ok (.bipush 24, 2) := by decide +kernel
theorem dX7_freezeCounters_13 : decode cX7_freezeCounters 13 = .ok (.if_icmp .ge 37, 3) := by decide +kernel
theorem dX7_freezeCounters_16 : decode cX7_freezeCounters 16 = .ok (.aload_n 0, 1) := by decide +kernel
theorem dX7_freezeCounters_17 : decode cX7_freezeCounters 17 = .ok (.getfield 11, 3) := by decide +kernel
theorem dX7_freezeCounters_20 : decode cX7_freezeCounters 20 = .ok (.iload_n 1, 1) := by decide +kernel
theorem dX7_freezeCounters_21 : decode cX7_freezeCounters 21 = .ok (.aaload, 1) := by decide +kernel
theorem dX7_freezeCounters_22 : decode cX7_freezeCounters 22 = .ok (.astore_n 2, 1) := by decide +kernel
theorem dX7_freezeCounters_23 : decode cX7_freezeCounters 23 = .ok (.aload_n 2, 1) := by decide +kernel
theorem dX7_freezeCounters_24 : decode cX7_freezeCounters 24 = .ok (.ifnull 20, 3) := by decide +kernel
theorem dX7_freezeCounters_27 : decode cX7_freezeCounters 27 = .ok (.aload_n 2, 1) := by decide +kernel
theorem dX7_freezeCounters_28 : decode cX7_freezeCounters 28 = .ok (.getfield 27, 3) := by decide +kernel
theorem dX7_freezeCounters_31 : decode cX7_freezeCounters 31 = .ok (.bipush 6, 2) := by decide +kernel
theorem dX7_freezeCounters_33 : decode cX7_freezeCounters 33 = .ok (.if_icmp .ne 11, 3) := by decide +kernel
theorem dX7_freezeCounters_36 : decode cX7_freezeCounters 36 = .ok (.aload_n 2, 1) := by decide +kernel
theorem dX7_freezeCounters_37 : decode cX7_freezeCounters 37 = .ok (.aload_n 2, 1) := by decide +kernel
theorem dX7_freezeCounters_38 : decode cX7_freezeCounters 38 = .ok (.getfield 30, 3) := by decide +kernel
theorem dX7_freezeCounters_41 : decode cX7_freezeCounters 41 = .ok (.putfield 33, 3) := by decide +kernel
theorem dX7_freezeCounters_44 : decode cX7_freezeCounters 44 = .ok (.iinc 1 1, 3) := by decide +kernel
theorem dX7_freezeCounters_47 : decode cX7_freezeCounters 47 = .ok (.goto (-45), 3) := by decide +kernel
theorem dX7_freezeCounters_50 : decode cX7_freezeCounters 50 = .ok (.return_, 1) := by decide +kernel
theorem dX7_resetCounters_0 : decode cX7_resetCounters 0 = .ok (.iconst 0, 1) := by decide +kernel
theorem dX7_resetCounters_1 : decode cX7_resetCounters 1 = .ok (.istore_n 1, 1) := by decide +kernel
theorem dX7_resetCounters_2 : decode cX7_resetCounters 2 = .ok (.iload_n 1, 1) := by decide +kernel
theorem dX7_resetCounters_3 : decode cX7_resetCounters 3 = .ok (.aload_n 0, 1) := by decide +kernel
theorem dX7_resetCounters_4 : decode cX7_resetCounters 4 = .ok (.getfield 20, 3) := by decide +kernel
theorem dX7_resetCounters_7 : decode cX7_resetCounters 7 = .ok (.if_icmp .ge 40, 3) := by decide +kernel
theorem dX7_resetCounters_10 : decode cX7_resetCounters 10 = .ok (.iload_n 1, 1) := by decide +kernel
theorem dX7_resetCounters_11 : decode cX7_resetCounters 11 = .ok (.bipush 24, 2) := by decide +kernel
theorem dX7_resetCounters_13 : decode cX7_resetCounters 13 = .ok (.if_icmp .ge 34, 3) := by decide +kernel
theorem dX7_resetCounters_16 : decode cX7_resetCounters 16 = .ok (.aload_n 0, 1) := by decide +kernel
theorem dX7_resetCounters_17 : decode cX7_resetCounters 17 = .ok (.getfield 11, 3) := by decide +kernel
theorem dX7_resetCounters_20 : decode cX7_resetCounters 20 = .ok (.iload_n 1, 1) := by decide +kernel
theorem dX7_resetCounters_21 : decode cX7_resetCounters 21 = .ok (.aaload, 1) := by decide +kernel
theorem dX7_resetCounters_22 : decode cX7_resetCounters 22 = .ok (.astore_n 2, 1) := by decide +kernel
theorem dX7_resetCounters_23 : decode cX7_resetCounters 23 = .ok (.aload_n 2, 1) := by decide +kernel
theorem dX7_resetCounters_24 : decode cX7_resetCounters 24 = .ok (.ifnull 17, 3) := by decide +kernel
theorem dX7_resetCounters_27 : decode cX7_resetCounters 27 = .ok (.aload_n 2, 1) := by decide +kernel
theorem dX7_resetCounters_28 : decode cX7_resetCounters 28 = .ok (.getfield 27, 3) := by decide +kernel
theorem dX7_resetCounters_31 : decode cX7_resetCounters 31 = .ok (.bipush 6, 2) := by decide +kernel
theorem dX7_resetCounters_33 : decode cX7_resetCounters 33 = .ok (.if_icmp .ne 8, 3) := by decide +kernel
theorem dX7_resetCounters_36 : decode cX7_resetCounters 36 = .ok (.aload_n 2, 1) := by decide +kernel
theorem dX7_resetCounters_37 : decode cX7_resetCounters 37 = .ok (.iconst 0, 1) := by decide +kernel
theorem dX7_resetCounters_38 : decode cX7_resetCounters 38 = .ok (.putfield 30, 3) := by decide +kernel
theorem dX7_resetCounters_41 : decode cX7_resetCounters 41 = .ok (.iinc 1 1, 3) := by decide +kernel
theorem dX7_resetCounters_44 : decode cX7_resetCounters 44 = .ok (.goto (-42), 3) := by decide +kernel
theorem dX7_resetCounters_47 : decode cX7_resetCounters 47 = .ok (.return_, 1) := by decide +kernel
theorem dX8_init_0 : decode cX8_init 0 = .ok (.aload_n 0, 1) := by decide +kernel
theorem dX8_init_1 : decode cX8_init 1 = .ok (.invokespecial 3, 3) := by decide +kernel
theorem dX8_init_4 : decode cX8_init 4 = .ok (.aload_n 0, 1) := by decide +kernel
theorem dX8_init_5 : decode cX8_init 5 = .ok (.new 9, 3) := by decide +kernel
theorem dX8_init_8 : decode cX8_init 8 = .ok (.dup, 1) := by decide +kernel
theorem dX8_init_9 : decode cX8_init 9 = .ok (.invokespecial 11, 3) := by decide +kernel
theorem dX8_init_12 : decode cX8_init 12 = .ok (.putfield 12, 3) := by decide +kernel
theorem dX8_init_15 : decode cX8_init 15 = .ok (.return_, 1) := by decide +kernel
theorem dX8_restart_0 : decode cX8_restart 0 = .ok (.aload_n 0, 1) := by decide +kernel
theorem dX8_restart_1 : decode cX8_restart 1 = .ok (.iconst 0, 1) := by decide +kernel
theorem dX8_restart_2 : decode cX8_restart 2 = .ok (.putfield 18, 3) := by decide +kernel
theorem dX8_restart_5 : decode cX8_restart 5 = .ok (.aload_n 0, 1) := by decide +kernel
theorem dX8_restart_6 : decode cX8_restart 6 = .ok (.invokevirtual 22, 3) := by decide +kernel
theorem dX8_restart_9 : decode cX8_restart 9 = .ok (.return_, 1) := by decide +kernel
theorem dX8_forget_0 : decode cX8_forget 0 = .ok (.aload_n 0, 1) := by decide +kernel
theorem dX8_forget_1 : decode cX8_forget 1 = .ok (.iconst 0, 1) := by decide +kernel
theorem dX8_forget_2 : decode cX8_forget 2 = .ok (.putfield 25, 3) := by decide +kernel
theorem dX8_forget_5 : decode cX8_forget 5 = .ok (.aload_n 0, 1) := by decide +kernel
theorem dX8_forget_6 : decode cX8_forget 6 = .ok (.iconst 0, 1) := by decide +kernel
theorem dX8_forget_7 : decode cX8_forget 7 = .ok (.putfield 28, 3) := by decide +kernel
theorem dX8_forget_10 : decode cX8_forget 10 = .ok (.return_, 1) := by decide +kernel
theorem dX8_accept_0 : decode cX8_accept 0 = .ok (.aload_n 0, 1) := by decide +kernel
theorem dX8_accept_1 : decode cX8_accept 1 = .ok (.dup, 1) := by decide +kernel
theorem dX8_accept_2 : decode cX8_accept 2 = .ok (.getfield 25, 3) := by decide +kernel
theorem dX8_accept_5 : decode cX8_accept 5 = .ok (.iconst 1, 1) := by decide +kernel
theorem dX8_accept_6 : decode cX8_accept 6 = .ok (.iadd, 1) := by decide +kernel
theorem dX8_accept_7 : decode cX8_accept 7 = .ok (.putfield 25, 3) := by decide +kernel
theorem dX8_accept_10 : decode cX8_accept 10 = .ok (.aload_n 0, 1) := by decide +kernel
theorem dX8_accept_11 : decode cX8_accept 11 = .ok (.getfield 25, 3) := by decide +kernel
theorem dX8_accept_14 : decode cX8_accept 14 = .ok (.iconst 1, 1) := by decide +kernel
theorem dX8_accept_15 : decode cX8_accept 15 = .ok (.if_icmp .ne 15, 3) := by decide +kernel
theorem dX8_accept_18 : decode cX8_accept 18 = .ok (.iload_n 1, 1) := by decide +kernel
theorem dX8_accept_19 : decode cX8_accept 19 = .ok (.bipush 104, 2) := by decide +kernel
theorem dX8_accept_21 : decode cX8_accept 21 = .ok (.if_icmp .ne 7, 3) := by decide +kernel
theorem dX8_accept_24 : decode cX8_accept 24 = .ok (.iconst 0, 1) := by decide +kernel
theorem dX8_accept_25 : decode cX8_accept 25 = .ok (.goto 4, 3) := by decide +kernel
theorem dX8_accept_28 : decode cX8_accept 28 = .ok (.iconst 1, 1) := by decide +kernel
theorem dX8_accept_29 : decode cX8_accept 29 = .ok (.ireturn, 1) := by decide +kernel
theorem dX8_accept_30 : decode cX8_accept 30 = .ok (.aload_n 0, 1) := by decide +kernel
theorem dX8_accept_31 : decode cX8_accept 31 = .ok (.getfield 25, 3) := by decide +kernel
theorem dX8_accept_34 : decode cX8_accept 34 = .ok (.iconst 2, 1) := by decide +kernel
theorem dX8_accept_35 : decode cX8_accept 35 = .ok (.if_icmp .ne 38, 3) := by decide +kernel
theorem dX8_accept_38 : decode cX8_accept 38 = .ok (.aload_n 0, 1) := by decide +kernel
theorem dX8_accept_39 : decode cX8_accept 39 = .ok (.iload_n 1, 1) := by decide +kernel
theorem dX8_accept_40 : decode cX8_accept 40 = .ok (.putfield 31, 3) := by decide +kernel
theorem dX8_accept_43 : decode cX8_accept 43 = .ok (.aload_n 0, 1) := by decide +kernel
theorem dX8_accept_44 : decode cX8_accept 44 = .ok (.iconst 0, 1) := by decide +kernel
theorem dX8_accept_45 : decode cX8_accept 45 = .ok (.putfield 34, 3) := by decide +kernel
theorem dX8_accept_48 : decode cX8_accept 48 = .ok (.aload_n 0, 1) := by decide +kernel
theorem dX8_accept_49 : decode cX8_accept 49 = .ok (.getfield 12, 3) := by decide +kernel
theorem dX8_accept_52 : decode cX8_accept 52 = .ok (.invokevirtual 37, 3) := by decide +kernel
theorem dX8_accept_55 : decode cX8_accept 55 = .ok (.iload_n 1, 1) := by decide +kernel
theorem dX8_accept_56 : decode cX8_accept 56 = .ok (.iconst 4, 1) := by decide +kernel
theorem dX8_accept_57 : decode cX8_accept 57 = .ok (.if_icmp .lt 14, 3) := by decide +kernel
theorem dX8_accept_60 : decode cX8_accept 60 = .ok (.iload_n 1, 1) := by decide +kernel
theorem dX8_accept_61 : decode cX8_accept 61 = .ok (.sipush 253, 3) := by decide +kernel
theorem dX8_accept_64 : decode cX8_accept 64 = .ok (.if_icmp .gt 7, 3) := by decide +kernel
theorem dX8_accept_67 : decode cX8_accept 67 = .ok (.iconst 0, 1) := by decide +kernel
theorem dX8_accept_68 : decode cX8_accept 68 = .ok (.goto 4, 3) := by decide +kernel
theorem dX8_accept_71 : decode cX8_accept 71 = .ok (.iconst 1, 1) := by decide +kernel
theorem dX8_accept_72 : decode cX8_accept 72 = .ok (.ireturn, 1) := by decide +kernel
theorem dX8_accept_73 : decode cX8_accept 73 = .ok (.aload_n 0, 1) := by decide +kernel
theorem dX8_accept_74 : decode cX8_accept 74 = .ok (.getfield 25, 3) := by decide +kernel
theorem dX8_accept_77 : decode cX8_accept 77 = .ok (.bipush 6, 2) := by decide +kernel
theorem dX8_accept_79 : decode cX8_accept 79 = .ok (.if_icmp .gt 26, 3) := by decide +kernel
theorem dX8_accept_82 : decode cX8_accept 82 = .ok (.aload_n 0, 1) := by decide +kernel
theorem dX8_accept_83 : decode cX8_accept 83 = .ok (.dup, 1) := by decide +kernel
theorem dX8_accept_84 : decode cX8_accept 84 = .ok (.getfield 34, 3) := by decide +kernel
theorem dX8_accept_87 : decode cX8_accept 87 = .ok (.iload_n 1, 1) := by decide +kernel
theorem dX8_accept_88 : decode cX8_accept 88 = .ok (.bipush 8, 2) := by decide +kernel
theorem dX8_accept_90 : decode cX8_accept 90 = .ok (.aload_n 0, 1) := by decide +kernel
theorem dX8_accept_91 : decode cX8_accept 91 = .ok (.getfield 25, 3) := by decide +kernel
theorem dX8_accept_94 : decode cX8_accept 94 = .ok (.iconst 3, 1) := by decide +kernel
theorem dX8_accept_95 : decode cX8_accept 95 = .ok (.isub, 1) := by decide +kernel
theorem dX8_accept_96 : decode cX8_accept 96 = .ok (.imul, 1) := by decide +kernel
theorem dX8_accept_97 : decode cX8_accept 97 = .ok (.ishl, 1) := by decide +kernel
theorem dX8_accept_98 : decode cX8_accept 98 = .ok (.ior, 1) := by decide +kernel
theorem dX8_accept_99 : decode cX8_accept 99 = .ok (.putfield 34, 3) := by decide +kernel
theorem dX8_accept_102 : decode cX8_accept 102 = .ok (.goto 13, 3) := by decide +kernel
theorem dX8_accept_105 : decode cX8_accept 105 = .ok (.aload_n 0, 1) := by decide +kernel
theorem dX8_accept_106 : decode cX8_accept 106 = .ok (.getfield 12, 3) := by decide +kernel
theorem dX8_accept_109 : decode cX8_accept 109 = .ok (.iload_n 1, 1) := by decide +kernel
theorem dX8_accept_110 : decode cX8_accept 110 = .ok (.i2l, 1) := by decide +kernel
theorem dX8_accept_111 : decode cX8_accept 111 = .ok (.iconst 1, 1) := by decide +kernel
theorem dX8_accept_112 : decode cX8_accept 112 = .ok (.invokevirtual 40, 3) := by decide +kernel
theorem dX8_accept_115 : decode cX8_accept 115 = .ok (.aload_n 0, 1) := by decide +kernel
theorem dX8_accept_116 : decode cX8_accept 116 = .ok (.getfield 25, 3) := by decide +kernel
theorem dX8_accept_119 : decode cX8_accept 119 = .ok (.bipush 6, 2) := by decide +kernel
theorem dX8_accept_121 : decode cX8_accept 121 = .ok (.if_icmp .ne 12, 3) := by decide +kernel
theorem dX8_accept_124 : decode cX8_accept 124 = .ok (.aload_n 0, 1) := by decide +kernel
theorem dX8_accept_125 : decode cX8_accept 125 = .ok (.invokevirtual 44, 3) := by decide +kernel
theorem dX8_accept_128 : decode cX8_accept 128 = .ok (.ifCond .ne 5, 3) := by decide +kernel
theorem dX8_accept_131 : decode cX8_accept 131 = .ok (.iconst 1, 1) := by decide +kernel
theorem dX8_accept_132 : decode cX8_accept 132 = .ok (.ireturn, 1) := by decide +kernel
theorem dX8_accept_133 : decode cX8_accept 133 = .ok (.aload_n 0, 1) := by decide +kernel
theorem dX8_accept_134 : decode cX8_accept 134 = .ok (.getfield 25, 3) := by decide +kernel
theorem dX8_accept_137 : decode cX8_accept 137 = .ok (.aload_n 0, 1) := by decide +kernel
theorem dX8_accept_138 : decode cX8_accept 138 = .ok (.getfield 31, 3) := by decide +kernel
theorem dX8_accept_141 : decode cX8_accept 141 = .ok (.iconst 2, 1) := by decide +kernel
theorem dX8_accept_142 : decode cX8_accept 142 = .ok (.iadd, 1) := by decide +kernel
theorem dX8_accept_143 : decode cX8_accept 143 = .ok (.if_icmp .ge 5, 3) := by decide +kernel
theorem dX8_accept_146 : decode cX8_accept 146 = .ok (.iconst 0, 1) := by decide +kernel
theorem dX8_accept_147 : decode cX8_accept 147 = .ok (.ireturn, 1) := by decide +kernel
theorem dX8_accept_148 : decode cX8_accept 148 = .ok (.aload_n 0, 1) := by decide +kernel
theorem dX8_accept_149 : decode cX8_accept 149 = .ok (.iconst 0, 1) := by decide +kernel
theorem dX8_accept_150 : decode cX8_accept 150 = .ok (.putfield 25, 3) := by decide +kernel
theorem dX8_accept_153 : decode cX8_accept 153 = .ok (.iconst 2, 1) := by decide +kernel
theorem dX8_accept_154 : decode cX8_accept 154 = .ok (.ireturn, 1) := by decide +kernel
theorem dX8_isControl_0 : decode cX8_isControl 0 = .ok (.aload_n 0, 1) := by decide +kernel
theorem dX8_isControl_1 : decode cX8_isControl 1 = .ok (.getfield 34, 3) := by decide +kernel
theorem dX8_isControl_4 : decode cX8_isControl 4 = .ok (.sipush 255, 3) := by decide +kernel
theorem dX8_isControl_7 : decode cX8_isControl 7 = .ok (.iand, 1) := by decide +kernel
theorem dX8_isControl_8 : decode cX8_isControl 8 = .ok (.istore_n 1, 1) := by decide +kernel
theorem dX8_isControl_9 : decode cX8_isControl 9 = .ok (.aload_n 0, 1) := by decide +kernel
theorem dX8_isControl_10 : decode cX8_isControl 10 = .ok (.getfield 34, 3) := by decide +kernel
theorem dX8_isControl_13 : decode cX8_isControl 13 = .ok (.bipush 16, 2) := by decide +kernel
theorem dX8_isControl_15 : decode cX8_isControl 15 = .ok (.ishr, 1) := by decide +kernel
theorem dX8_isControl_16 : decode cX8_isControl 16 = .ok (.iconst 1, 1) := by decide +kernel
theorem dX8_isControl_17 : decode cX8_isControl 17 = .ok (.iand, 1) := by decide +kernel
theorem dX8_isControl_18 : decode cX8_isControl 18 = .ok (.ifCond .ne 7, 3) := by decide +kernel
theorem dX8_isControl_21 : decode cX8_isControl 21 = .ok (.iconst 1, 1) := by decide +kernel
theorem dX8_isControl_22 : decode cX8_isControl 22 = .ok (.goto 4, 3) := by decide +kernel
theorem dX8_isControl_25 : decode cX8_isControl 25 = .ok (.iconst 0, 1) := by decide +kernel
theorem dX8_isControl_26 : decode cX8_isControl 26 = .ok (.istore_n 2, 1) := by decide +kernel
theorem dX8_isControl_27 : decode cX8_isControl 27 = .ok (.iload_n 1, 1) := by decide +kernel
theorem dX8_isControl_28 : decode cX8_isControl 28 = .ok (.iconst 1, 1) := by decide +kernel
theorem dX8_isControl_29 : decode cX8_isControl 29 = .ok (.iand, 1) := by decide +kernel
theorem dX8_isControl_30 : decode cX8_isControl 30 = .ok (.ifCond .ne 5, 3) := by decide +kernel
theorem dX8_isControl_33 : decode cX8_isControl 33 = .ok (.iload_n 2, 1) := by decide +kernel
theorem dX8_isControl_34 : decode cX8_isControl 34 = .ok (.ireturn, 1) := by decide +kernel
theorem dX8_isControl_35 : decode cX8_isControl 35 = .ok (.aload_n 0, 1) := by decide +kernel
theorem dX8_isControl_36 : decode cX8_isControl 36 = .ok (.getfield 31, 3) := by decide +kernel
theorem dX8_isControl_39 : decode cX8_isControl 39 = .ok (.iconst 4, 1) := by decide +kernel
theorem dX8_isControl_40 : decode cX8_isControl 40 = .ok (.if_icmp .eq 5, 3) := by decide +kernel
theorem dX8_isControl_43 : decode cX8_isControl 43 = .ok (.iconst 0, 1) := by decide +kernel
theorem dX8_isControl_44 : decode cX8_isControl 44 = .ok (.ireturn, 1) := by decide +kernel
theorem dX8_isControl_45 : decode cX8_isControl 45 = .ok (.iload_n 1, 1) := by decide +kernel
theorem dX8_isControl_46 : decode cX8_isControl 46 = .ok (.iconst 1, 1) := by decide +kernel
theorem dX8_isControl_47 : decode cX8_isControl 47 = .ok (.if_icmp .ne 27, 3) := by decide +kernel
theorem dX8_isControl_50 : decode cX8_isControl 50 = .ok (.iload_n 2, 1) := by decide +kernel
theorem dX8_isControl_51 : decode cX8_isControl 51 = .ok (.ifCond .eq 21, 3) := by decide +kernel
theorem dX8_isControl_54 : decode cX8_isControl 54 = .ok (.aload_n 0, 1) := by decide +kernel
theorem dX8_isControl_55 : decode cX8_isControl 55 = .ok (.getfield 34, 3) := by decide +kernel
theorem dX8_isControl_58 : decode cX8_isControl 58 = .ok (.bipush 8, 2) := by decide +kernel
theorem dX8_isControl_60 : decode cX8_isControl 60 = .ok (.ishr, 1) := by decide +kernel
theorem dX8_isControl_61 : decode cX8_isControl 61 = .ok (.sipush 255, 3) := by decide +kernel
theorem dX8_isControl_64 : decode cX8_isControl 64 = .ok (.iand, 1) := by decide +kernel
theorem dX8_isControl_65 : decode cX8_isControl 65 = .ok (.ifCond .ne 7, 3) := by decide +kernel
theorem dX8_isControl_68 : decode cX8_isControl 68 = .ok (.iconst 1, 1) := by decide +kernel
theorem dX8_isControl_69 : decode cX8_isControl 69 = .ok (.goto 4, 3) := by decide +kernel
theorem dX8_isControl_72 : decode cX8_isControl 72 = .ok (.iconst 0, 1) := by decide +kernel
theorem dX8_isControl_73 : decode cX8_isControl 73 = .ok (.ireturn, 1) := by decide +kernel
theorem dX8_isControl_74 : decode cX8_isControl 74 = .ok (.aload_n 0, 1) := by decide +kernel
