theorem dX11_stopCame_1 : decode cX11_stopCame 1 = .ok (.getfield 75, 3) := by decide +kernel
theorem dX11_stopCame_4 : decode cX11_stopCame 4 = .ok (.iconst 2, 1) := by decide +kernel
theorem dX11_stopCame_5 : decode cX11_stopCame 5 = .ok (.if_icmp .ne 25, 3) := by decide +kernel
theorem dX11_stopCame_8 : decode cX11_stopCame 8 = .ok (.aload_n 0, 1) := by decide +kernel
theorem dX11_stopCame_9 : decode cX11_stopCame 9 = .ok (.iconst 3, 1) := by decide +kernel
theorem dX11_stopCame_10 : decode cX11_stopCame 10 = .ok (.putfield 75, 3) := by decide +kernel
theorem dX11_stopCame_13 : decode cX11_stopCame 13 = .ok (.aload_n 0, 1) := by decide +kernel
theorem dX11_stopCame_14 : decode cX11_stopCame 14 = .ok (.getfield 57, 3) := by decide +kernel
theorem dX11_stopCame_17 : decode cX11_stopCame 17 = .ok (.getfield 254, 3) := by decide +kernel
theorem dX11_stopCame_20 : decode cX11_stopCame 20 = .ok (.ifCond .le 26, 3) := by decide +kernel
theorem dX11_stopCame_23 : decode cX11_stopCame 23 = .ok (.aload_n 0, 1) := by decide +kernel
theorem dX11_stopCame_24 : decode cX11_stopCame 24 = .ok (.invokevirtual 296, 3) := by decide +kernel
theorem dX11_stopCame_27 : decode cX11_stopCame 27 = .ok (.goto 19, 3) := by decide +kernel
theorem dX11_stopCame_30 : decode cX11_stopCame 30 = .ok (.aload_n 0, 1) := by decide +kernel
theorem dX11_stopCame_31 : decode cX11_stopCame 31 = .ok (.getfield 75, 3) := by decide +kernel
theorem dX11_stopCame_34 : decode cX11_stopCame 34 = .ok (.iconst 1, 1) := by decide +kernel
theorem dX11_stopCame_35 : decode cX11_stopCame 35 = .ok (.if_icmp .ne 11, 3) := by decide +kernel
theorem dX11_stopCame_38 : decode cX11_stopCame 38 = .ok (.aload_n 0, 1) := by decide +kernel
theorem dX11_stopCame_39 : decode cX11_stopCame 39 = .ok (.bipush 35, 2) := by decide +kernel
theorem dX11_stopCame_41 : decode cX11_stopCame 41 = .ok (.aconst_null, 1) := by decide +kernel
theorem dX11_stopCame_42 : decode cX11_stopCame 42 = .ok (.invokevirtual 303, 3) := by decide +kernel
theorem dX11_stopCame_45 : decode cX11_stopCame 45 = .ok (.pop, 1) := by decide +kernel
theorem dX11_stopCame_46 : decode cX11_stopCame 46 = .ok (.return_, 1) := by decide +kernel
theorem dX11_acceptData_0 : decode cX11_acceptData 0 = .ok (.aload_n 0, 1) := by decide +kernel
theorem dX11_acceptData_1 : decode cX11_acceptData 1 = .ok (.getfield 75, 3) := by decide +kernel
theorem dX11_acceptData_4 : decode cX11_acceptData 4 = .ok (.iconst 2, 1) := by decide +kernel
theorem dX11_acceptData_5 : decode cX11_acceptData 5 = .ok (.if_icmp .eq 18, 3) := by decide +kernel
theorem dX11_acceptData_8 : decode cX11_acceptData 8 = .ok (.aload_n 0, 1) := by decide +kernel
theorem dX11_acceptData_9 : decode cX11_acceptData 9 = .ok (.getfield 75, 3) := by decide +kernel
theorem dX11_acceptData_12 : decode cX11_acceptData 12 = .ok (.iconst 3, 1) := by decide +kernel
theorem dX11_acceptData_13 : decode cX11_acceptData 13 = .ok (.if_icmp .eq 10, 3) := by decide +kernel
theorem dX11_acceptData_16 : decode cX11_acceptData 16 = .ok (.aload_n 0, 1) := by decide +kernel
theorem dX11_acceptData_17 : decode cX11_acceptData 17 = .ok (.iconst 5, 1) := by decide +kernel
theorem dX11_acceptData_18 : decode cX11_acceptData 18 = .ok (.invokevirtual 161, 3) := by decide +kernel
theorem dX11_acceptData_21 : decode cX11_acceptData 21 = .ok (.iconst 0, 1) := by decide +kernel
theorem dX11_acceptData_22 : decode cX11_acceptData 22 = .ok (.ireturn, 1) := by decide +kernel
theorem dX11_acceptData_23 : decode cX11_acceptData 23 = .ok (.aload_n 0, 1) := by decide +kernel
theorem dX11_acceptData_24 : decode cX11_acceptData 24 = .ok (.getfield 57, 3) := by decide +kernel
theorem dX11_acceptData_27 : decode cX11_acceptData 27 = .ok (.invokevirtual 362, 3) := by decide +kernel
theorem dX11_acceptData_30 : decode cX11_acceptData 30 = .ok (.aload_n 0, 1) := by decide +kernel
theorem dX11_acceptData_31 : decode cX11_acceptData 31 = .ok (.getfield 57, 3) := by decide +kernel
theorem dX11_acceptData_34 : decode cX11_acceptData 34 = .ok (.invokevirtual 307, 3) := by decide +kernel
theorem dX11_acceptData_37 : decode cX11_acceptData 37 = .ok (.if_icmp .ne 17, 3) := by decide +kernel
theorem dX11_acceptData_40 : decode cX11_acceptData 40 = .ok (.aload_n 0, 1) := by decide +kernel
theorem dX11_acceptData_41 : decode cX11_acceptData 41 = .ok (.aload_n 0, 1) := by decide +kernel
theorem dX11_acceptData_42 : decode cX11_acceptData 42 = .ok (.getfield 57, 3) := by decide +kernel
theorem dX11_acceptData_45 : decode cX11_acceptData 45 = .ok (.invokevirtual 345, 3) := by decide +kernel
theorem dX11_acceptData_48 : decode cX11_acceptData 48 = .ok (.invokevirtual 348, 3) := by decide +kernel
theorem dX11_acceptData_51 : decode cX11_acceptData 51 = .ok (.ifCond .ne 10, 3) := by decide +kernel
theorem dX11_acceptData_54 : decode cX11_acceptData 54 = .ok (.aload_n 0, 1) := by decide +kernel
theorem dX11_acceptData_55 : decode cX11_acceptData 55 = .ok (.iconst 3, 1) := by decide +kernel
theorem dX11_acceptData_56 : decode cX11_acceptData 56 = .ok (.invokevirtual 161, 3) := by decide +kernel
theorem dX11_acceptData_59 : decode cX11_acceptData 59 = .ok (.iconst 0, 1) := by decide +kernel
theorem dX11_acceptData_60 : decode cX11_acceptData 60 = .ok (.ireturn, 1) := by decide +kernel
theorem dX11_acceptData_61 : decode cX11_acceptData 61 = .ok (.aload_n 0, 1) := by decide +kernel
theorem dX11_acceptData_62 : decode cX11_acceptData 62 = .ok (.getfield 57, 3) := by decide +kernel
theorem dX11_acceptData_65 : decode cX11_acceptData 65 = .ok (.aload_n 0, 1) := by decide +kernel
theorem dX11_acceptData_66 : decode cX11_acceptData 66 = .ok (.getfield 155, 3) := by decide +kernel
theorem dX11_acceptData_69 : decode cX11_acceptData 69 = .ok (.invokevirtual 364, 3) := by decide +kernel
theorem dX11_acceptData_72 : decode cX11_acceptData 72 = .ok (.iconst 1, 1) := by decide +kernel
theorem dX11_acceptData_73 : decode cX11_acceptData 73 = .ok (.ireturn, 1) := by decide +kernel
theorem dX11_takeRest_0 : decode cX11_takeRest 0 = .ok (.aload_n 1, 1) := by decide +kernel
theorem dX11_takeRest_1 : decode cX11_takeRest 1 = .ok (.iconst 0, 1) := by decide +kernel
theorem dX11_takeRest_2 : decode cX11_takeRest 2 = .ok (.invokevirtual 318, 3) := by decide +kernel
theorem dX11_takeRest_5 : decode cX11_takeRest 5 = .ok (.istore_n 2, 1) := by decide +kernel
theorem dX11_takeRest_6 : decode cX11_takeRest 6 = .ok (.aload_n 1, 1) := by decide +kernel
theorem dX11_takeRest_7 : decode cX11_takeRest 7 = .ok (.iconst 2, 1) := by decide +kernel
theorem dX11_takeRest_8 : decode cX11_takeRest 8 = .ok (.invokevirtual 318, 3) := by decide +kernel
theorem dX11_takeRest_11 : decode cX11_takeRest 11 = .ok (.bipush 63, 2) := by decide +kernel
theorem dX11_takeRest_13 : decode cX11_takeRest 13 = .ok (.iand, 1) := by decide +kernel
theorem dX11_takeRest_14 : decode cX11_takeRest 14 = .ok (.istore_n 3, 1) := by decide +kernel
theorem dX11_takeRest_15 : decode cX11_takeRest 15 = .ok (.aload_n 0, 1) := by decide +kernel
theorem dX11_takeRest_16 : decode cX11_takeRest 16 = .ok (.aload_n 1, 1) := by decide +kernel
theorem dX11_takeRest_17 : decode cX11_takeRest 17 = .ok (.iload_n 2, 1) := by decide +kernel
theorem dX11_takeRest_18 : decode cX11_takeRest 18 = .ok (.iload_n 3, 1) := by decide +kernel
theorem dX11_takeRest_19 : decode cX11_takeRest 19 = .ok (.invokevirtual 367, 3) := by decide +kernel
theorem dX11_takeRest_22 : decode cX11_takeRest 22 = .ok (.istore 4, 2) := by decide +kernel
theorem dX11_takeRest_24 : decode cX11_takeRest 24 = .ok (.iload 4, 2) := by decide +kernel
theorem dX11_takeRest_26 : decode cX11_takeRest 26 = .ok (.iconst (-1), 1) := by decide +kernel
theorem dX11_takeRest_27 : decode cX11_takeRest 27 = .ok (.if_icmp .ne 16, 3) := by decide +kernel
theorem dX11_takeRest_30 : decode cX11_takeRest 30 = .ok (.aload_n 0, 1) := by decide +kernel
theorem dX11_takeRest_31 : decode cX11_takeRest 31 = .ok (.dup, 1) := by decide +kernel
theorem dX11_takeRest_32 : decode cX11_takeRest 32 = .ok (.getfield 261, 3) := by decide +kernel
theorem dX11_takeRest_35 : decode cX11_takeRest 35 = .ok (.iconst 1, 1) := by decide +kernel
theorem dX11_takeRest_36 : decode cX11_takeRest 36 = .ok (.iadd, 1) := by decide +kernel
theorem dX11_takeRest_37 : decode cX11_takeRest 37 = .ok (.putfield 261, 3) := by decide +kernel
theorem dX11_takeRest_40 : decode cX11_takeRest 40 = .ok (.goto 153, 3) := by decide +kernel
theorem dX11_takeRest_43 : decode cX11_takeRest 43 = .ok (.iload 4, 2) := by decide +kernel
theorem dX11_takeRest_45 : decode cX11_takeRest 45 = .ok (.ifCond .eq 16, 3) := by decide +kernel
theorem dX11_takeRest_48 : decode cX11_takeRest 48 = .ok (.aload_n 0, 1) := by decide +kernel
theorem dX11_takeRest_49 : decode cX11_takeRest 49 = .ok (.iload 4, 2) := by decide +kernel
theorem dX11_takeRest_51 : decode cX11_takeRest 51 = .ok (.bipush 64, 2) := by decide +kernel
theorem dX11_takeRest_53 : decode cX11_takeRest 53 = .ok (.ior, 1) := by decide +kernel
theorem dX11_takeRest_54 : decode cX11_takeRest 54 = .ok (.invokevirtual 371, 3) := by decide +kernel
theorem dX11_takeRest_57 : decode cX11_takeRest 57 = .ok (.pop, 1) := by decide +kernel
theorem dX11_takeRest_58 : decode cX11_takeRest 58 = .ok (.goto 135, 3) := by decide +kernel
theorem dX11_takeRest_61 : decode cX11_takeRest 61 = .ok (.iload_n 2, 1) := by decide +kernel
theorem dX11_takeRest_62 : decode cX11_takeRest 62 = .ok (.bipush 102, 2) := by decide +kernel
theorem dX11_takeRest_64 : decode cX11_takeRest 64 = .ok (.if_icmp .ne 21, 3) := by decide +kernel
theorem dX11_takeRest_67 : decode cX11_takeRest 67 = .ok (.aload_n 0, 1) := by decide +kernel
theorem dX11_takeRest_68 : decode cX11_takeRest 68 = .ok (.aload_n 0, 1) := by decide +kernel
theorem dX11_takeRest_69 : decode cX11_takeRest 69 = .ok (.getfield 16, 3) := by decide +kernel
theorem dX11_takeRest_72 : decode cX11_takeRest 72 = .ok (.aload_n 1, 1) := by decide +kernel
theorem dX11_takeRest_73 : decode cX11_takeRest 73 = .ok (.invokevirtual 374, 3) := by decide +kernel
theorem dX11_takeRest_76 : decode cX11_takeRest 76 = .ok (.invokevirtual 265, 3) := by decide +kernel
theorem dX11_takeRest_79 : decode cX11_takeRest 79 = .ok (.invokevirtual 376, 3) := by decide +kernel
theorem dX11_takeRest_82 : decode cX11_takeRest 82 = .ok (.goto 111, 3) := by decide +kernel
theorem dX11_takeRest_85 : decode cX11_takeRest 85 = .ok (.iload_n 2, 1) := by decide +kernel
theorem dX11_takeRest_86 : decode cX11_takeRest 86 = .ok (.bipush 100, 2) := by decide +kernel
theorem dX11_takeRest_88 : decode cX11_takeRest 88 = .ok (.if_icmp .ne 17, 3) := by decide +kernel
theorem dX11_takeRest_91 : decode cX11_takeRest 91 = .ok (.aload_n 0, 1) := by decide +kernel
theorem dX11_takeRest_92 : decode cX11_takeRest 92 = .ok (.iload_n 3, 1) := by decide +kernel
theorem dX11_takeRest_93 : decode cX11_takeRest 93 = .ok (.aload_n 1, 1) := by decide +kernel
theorem dX11_takeRest_94 : decode cX11_takeRest 94 = .ok (.bipush 9, 2) := by decide +kernel
theorem dX11_takeRest_96 : decode cX11_takeRest 96 = .ok (.invokevirtual 318, 3) := by decide +kernel
theorem dX11_takeRest_99 : decode cX11_takeRest 99 = .ok (.invokevirtual 379, 3) := by decide +kernel
theorem dX11_takeRest_102 : decode cX11_takeRest 102 = .ok (.goto 91, 3) := by decide +kernel
theorem dX11_takeRest_105 : decode cX11_takeRest 105 = .ok (.iload_n 2, 1) := by decide +kernel
theorem dX11_takeRest_106 : decode cX11_takeRest 106 = .ok (.bipush 101, 2) := by decide +kernel
theorem dX11_takeRest_108 : decode cX11_takeRest 108 = .ok (.if_icmp .ne 16, 3) := by decide +kernel
theorem dX11_takeRest_111 : decode cX11_takeRest 111 = .ok (.aload_n 0, 1) := by decide +kernel
theorem dX11_takeRest_112 : decode cX11_takeRest 112 = .ok (.aload_n 1, 1) := by decide +kernel
theorem dX11_takeRest_113 : decode cX11_takeRest 113 = .ok (.bipush 9, 2) := by decide +kernel
theorem dX11_takeRest_115 : decode cX11_takeRest 115 = .ok (.invokevirtual 318, 3) := by decide +kernel
theorem dX11_takeRest_118 : decode cX11_takeRest 118 = .ok (.invokevirtual 383, 3) := by decide +kernel
theorem dX11_takeRest_121 : decode cX11_takeRest 121 = .ok (.goto 72, 3) := by decide +kernel
theorem dX11_takeRest_124 : decode cX11_takeRest 124 = .ok (.iload_n 2, 1) := by decide +kernel
theorem dX11_takeRest_125 : decode cX11_takeRest 125 = .ok (.bipush 103, 2) := by decide +kernel
theorem dX11_takeRest_127 : decode cX11_takeRest 127 = .ok (.if_icmp .ne 18, 3) := by decide +kernel
theorem dX11_takeRest_130 : decode cX11_takeRest 130 = .ok (.aload_n 0, 1) := by decide +kernel
theorem dX11_takeRest_131 : decode cX11_takeRest 131 = .ok (.aload_n 1, 1) := by decide +kernel
theorem dX11_takeRest_132 : decode cX11_takeRest 132 = .ok (.bipush 9, 2) := by decide +kernel
theorem dX11_takeRest_134 : decode cX11_takeRest 134 = .ok (.bipush 7, 2) := by decide +kernel
theorem dX11_takeRest_136 : decode cX11_takeRest 136 = .ok (.invokevirtual 386, 3) := by decide +kernel
theorem dX11_takeRest_139 : decode cX11_takeRest 139 = .ok (.invokevirtual 388, 3) := by decide +kernel
theorem dX11_takeRest_142 : decode cX11_takeRest 142 = .ok (.goto 51, 3) := by decide +kernel
theorem dX11_takeRest_145 : decode cX11_takeRest 145 = .ok (.iload_n 2, 1) := by decide +kernel
theorem dX11_takeRest_146 : decode cX11_takeRest 146 = .ok (.bipush 104, 2) := by decide +kernel
theorem dX11_takeRest_148 : decode cX11_takeRest 148 = .ok (.if_icmp .ne 32, 3) := by decide +kernel
theorem dX11_takeRest_151 : decode cX11_takeRest 151 = .ok (.aload_n 0, 1) := by decide +kernel
theorem dX11_takeRest_152 : decode cX11_takeRest 152 = .ok (.aload_n 1, 1) := by decide +kernel
theorem dX11_takeRest_153 : decode cX11_takeRest 153 = .ok (.bipush 9, 2) := by decide +kernel
theorem dX11_takeRest_155 : decode cX11_takeRest 155 = .ok (.iconst 2, 1) := by decide +kernel
theorem dX11_takeRest_156 : decode cX11_takeRest 156 = .ok (.invokevirtual 386, 3) := by decide +kernel
theorem dX11_takeRest_159 : decode cX11_takeRest 159 = .ok (.ldc2_w 392, 3) := by decide +kernel
theorem dX11_takeRest_162 : decode cX11_takeRest 162 = .ok (.lcmp, 1) := by decide +kernel
theorem dX11_takeRest_163 : decode cX11_takeRest 163 = .ok (.ifCond .ne 8, 3) := by decide +kernel
theorem dX11_takeRest_166 : decode cX11_takeRest 166 = .ok (.bipush 7, 2) := by decide +kernel
theorem dX11_takeRest_168 : decode cX11_takeRest 168 = .ok (.goto 5, 3) := by decide +kernel
theorem dX11_takeRest_171 : decode cX11_takeRest 171 = .ok (.bipush 71, 2) := by decide +kernel
theorem dX11_takeRest_173 : decode cX11_takeRest 173 = .ok (.invokevirtual 371, 3) := by decide +kernel
theorem dX11_takeRest_176 : decode cX11_takeRest 176 = .ok (.pop, 1) := by decide +kernel
theorem dX11_takeRest_177 : decode cX11_takeRest 177 = .ok (.goto 16, 3) := by decide +kernel
theorem dX11_takeRest_180 : decode cX11_takeRest 180 = .ok (.aload_n 0, 1) := by decide +kernel
theorem dX11_takeRest_181 : decode cX11_takeRest 181 = .ok (.aload_n 0, 1) := by decide +kernel
theorem dX11_takeRest_182 : decode cX11_takeRest 182 = .ok (.aload_n 1, 1) := by decide +kernel
theorem dX11_takeRest_183 : decode cX11_takeRest 183 = .ok (.invokevirtual 374, 3) := by decide +kernel
theorem dX11_takeRest_186 : decode cX11_takeRest 186 = .ok (.invokevirtual 268, 3) := by decide +kernel
theorem dX11_takeRest_189 : decode cX11_takeRest 189 = .ok (.iload_n 3, 1) := by decide +kernel
theorem dX11_takeRest_190 : decode cX11_takeRest 190 = .ok (.invokevirtual 394, 3) := by decide +kernel
theorem dX11_takeRest_193 : decode cX11_takeRest 193 = .ok (.aload_n 0, 1) := by decide +kernel
theorem dX11_takeRest_194 : decode cX11_takeRest 194 = .ok (.getfield 50, 3) := by decide +kernel
theorem dX11_takeRest_197 : decode cX11_takeRest 197 = .ok (.getfield 398, 3) := by decide +kernel
theorem dX11_takeRest_200 : decode cX11_takeRest 200 = .ok (.ifCond .eq 9, 3) := by decide +kernel
theorem dX11_takeRest_203 : decode cX11_takeRest 203 = .ok (.aload_n 0, 1) := by decide +kernel
theorem dX11_takeRest_204 : decode cX11_takeRest 204 = .ok (.bipush 7, 2) := by decide +kernel
theorem dX11_takeRest_206 : decode cX11_takeRest 206 = .ok (.invokevirtual 161, 3) := by decide +kernel
theorem dX11_takeRest_209 : decode cX11_takeRest 209 = .ok (.return_, 1) := by decide +kernel
theorem dX11_faultOf_0 : decode cX11_faultOf 0 = .ok (.aload_n 1, 1) := by decide +kernel
theorem dX11_faultOf_1 : decode cX11_faultOf 1 = .ok (.getfield 313, 3) := by decide +kernel
theorem dX11_faultOf_4 : decode cX11_faultOf 4 = .ok (.bipush 9, 2) := by decide +kernel
theorem dX11_faultOf_6 : decode cX11_faultOf 6 = .ok (.if_icmp .ge 5, 3) := by decide +kernel
theorem dX11_faultOf_9 : decode cX11_faultOf 9 = .ok (.iconst (-1), 1) := by decide +kernel
theorem dX11_faultOf_10 : decode cX11_faultOf 10 = .ok (.ireturn, 1) := by decide +kernel
theorem dX11_faultOf_11 : decode cX11_faultOf 11 = .ok (.iload_n 2, 1) := by decide +kernel
theorem dX11_faultOf_12 : decode cX11_faultOf 12 = .ok (.invokestatic 401, 3) := by decide +kernel
theorem dX11_faultOf_15 : decode cX11_faultOf 15 = .ok (.ifCond .ne 6, 3) := by decide +kernel
theorem dX11_faultOf_18 : decode cX11_faultOf 18 = .ok (.bipush 44, 2) := by decide +kernel
theorem dX11_faultOf_20 : decode cX11_faultOf 20 = .ok (.ireturn, 1) := by decide +kernel
theorem dX11_faultOf_21 : decode cX11_faultOf 21 = .ok (.iload_n 2, 1) := by decide +kernel
theorem dX11_faultOf_22 : decode cX11_faultOf 22 = .ok (.iload_n 3, 1) := by decide +kernel
theorem dX11_faultOf_23 : decode cX11_faultOf 23 = .ok (.invokestatic 404, 3) := by decide +kernel
theorem dX11_faultOf_26 : decode cX11_faultOf 26 = .ok (.ifCond .ne 6, 3) := by decide +kernel
theorem dX11_faultOf_29 : decode cX11_faultOf 29 = .ok (.bipush 45, 2) := by decide +kernel
theorem dX11_faultOf_31 : decode cX11_faultOf 31 = .ok (.ireturn, 1) := by decide +kernel
theorem dX11_faultOf_32 : decode cX11_faultOf 32 = .ok (.aload_n 1, 1) := by decide +kernel
theorem dX11_faultOf_33 : decode cX11_faultOf 33 = .ok (.iconst 4, 1) := by decide +kernel
theorem dX11_faultOf_34 : decode cX11_faultOf 34 = .ok (.iconst 2, 1) := by decide +kernel
theorem dX11_faultOf_35 : decode cX11_faultOf 35 = .ok (.invokevirtual 386, 3) := by decide +kernel
theorem dX11_faultOf_38 : decode cX11_faultOf 38 = .ok (.lstore 4, 2) := by decide +kernel
theorem dX11_faultOf_40 : decode cX11_faultOf 40 = .ok (.lload 4, 2) := by decide +kernel
theorem dX11_faultOf_42 : decode cX11_faultOf 42 = .ok (.aload_n 0, 1) := by decide +kernel
theorem dX11_faultOf_43 : decode cX11_faultOf 43 = .ok (.getfield 7, 3) := by decide +kernel
theorem dX11_faultOf_46 : decode cX11_faultOf 46 = .ok (.iconst 0, 1) := by decide +kernel
theorem dX11_faultOf_47 : decode cX11_faultOf 47 = .ok (.iaload, 1) := by decide +kernel
theorem dX11_faultOf_48 : decode cX11_faultOf 48 = .ok (.i2l, 1) := by decide +kernel
theorem dX11_faultOf_49 : decode cX11_faultOf 49 = .ok (.lcmp, 1) := by decide +kernel
theorem dX11_faultOf_50 : decode cX11_faultOf 50 = .ok (.ifCond .eq 21, 3) := by decide +kernel
theorem dX11_faultOf_53 : decode cX11_faultOf 53 = .ok (.iload_n 2, 1) := by decide +kernel
theorem dX11_faultOf_54 : decode cX11_faultOf 54 = .ok (.bipush 100, 2) := by decide +kernel
theorem dX11_faultOf_56 : decode cX11_faultOf 56 = .ok (.if_icmp .lt 12, 3) := by decide +kernel
theorem dX11_faultOf_59 : decode cX11_faultOf 59 = .ok (.lload 4, 2) := by decide +kernel
theorem dX11_faultOf_61 : decode cX11_faultOf 61 = .ok (.ldc2_w 407, 3) := by decide +kernel
theorem dX11_faultOf_64 : decode cX11_faultOf 64 = .ok (.lcmp, 1) := by decide +kernel
theorem dX11_faultOf_65 : decode cX11_faultOf 65 = .ok (.ifCond .eq 6, 3) := by decide +kernel
theorem dX11_faultOf_68 : decode cX11_faultOf 68 = .ok (.bipush 46, 2) := by decide +kernel
theorem dX11_faultOf_70 : decode cX11_faultOf 70 = .ok (.ireturn, 1) := by decide +kernel
theorem dX11_faultOf_71 : decode cX11_faultOf 71 = .ok (.aload_n 1, 1) := by decide +kernel
theorem dX11_faultOf_72 : decode cX11_faultOf 72 = .ok (.getfield 313, 3) := by decide +kernel
theorem dX11_faultOf_75 : decode cX11_faultOf 75 = .ok (.iload_n 2, 1) := by decide +kernel
theorem dX11_faultOf_76 : decode cX11_faultOf 76 = .ok (.invokestatic 401, 3) := by decide +kernel
theorem dX11_faultOf_79 : decode cX11_faultOf 79 = .ok (.if_icmp .ne 12, 3) := by decide +kernel
theorem dX11_faultOf_82 : decode cX11_faultOf 82 = .ok (.aload_n 1, 1) := by decide +kernel
theorem dX11_faultOf_83 : decode cX11_faultOf 83 = .ok (.iconst 1, 1) := by decide +kernel
theorem dX11_faultOf_84 : decode cX11_faultOf 84 = .ok (.invokevirtual 318, 3) := by decide +kernel
theorem dX11_faultOf_87 : decode cX11_faultOf 87 = .ok (.iconst 1, 1) := by decide +kernel
theorem dX11_faultOf_88 : decode cX11_faultOf 88 = .ok (.if_icmp .eq 5, 3) := by decide +kernel
theorem dX11_faultOf_91 : decode cX11_faultOf 91 = .ok (.iconst (-1), 1) := by decide +kernel
theorem dX11_faultOf_92 : decode cX11_faultOf 92 = .ok (.ireturn, 1) := by decide +kernel
theorem dX11_faultOf_93 : decode cX11_faultOf 93 = .ok (.aload_n 0, 1) := by decide +kernel
theorem dX11_faultOf_94 : decode cX11_faultOf 94 = .ok (.iload_n 2, 1) := by decide +kernel
theorem dX11_faultOf_95 : decode cX11_faultOf 95 = .ok (.aload_n 1, 1) := by decide +kernel
theorem dX11_faultOf_96 : decode cX11_faultOf 96 = .ok (.invokevirtual 374, 3) := by decide +kernel
theorem dX11_faultOf_99 : decode cX11_faultOf 99 = .ok (.invokevirtual 409, 3) := by decide +kernel
theorem dX11_faultOf_102 : decode cX11_faultOf 102 = .ok (.ifCond .eq 7, 3) := by decide +kernel
theorem dX11_faultOf_105 : decode cX11_faultOf 105 = .ok (.iconst 0, 1) := by decide +kernel
theorem dX11_faultOf_106 : decode cX11_faultOf 106 = .ok (.goto 5, 3) := by decide +kernel
theorem dX11_faultOf_109 : decode cX11_faultOf 109 = .ok (.bipush 47, 2) := by decide +kernel
theorem dX11_faultOf_111 : decode cX11_faultOf 111 = .ok (.ireturn, 1) := by decide +kernel
theorem dX11_restLength_0 : decode cX11_restLength 0 = .ok (.iload_n 0, 1) := by decide +kernel
theorem dX11_restLength_1 : decode cX11_restLength 1 = .ok (.lookupswitch 90 #[(45, 78), (46, 78), (49, 84), (100, 78), (101, 78), (102, 75), (103, 87), (104, 81)], 75) := by decide +kernel
theorem dX11_restLength_76 : decode cX11_restLength 76 = .ok (.bipush 9, 2) := by decide +kernel
theorem dX11_restLength_78 : decode cX11_restLength 78 = .ok (.ireturn, 1) := by decide +kernel
theorem dX11_restLength_79 : decode cX11_restLength 79 = .ok (.bipush 10, 2) := by decide +kernel
theorem dX11_restLength_81 : decode cX11_restLength 81 = .ok (.ireturn, 1) := by decide +kernel
theorem dX11_restLength_82 : decode cX11_restLength 82 = .ok (.bipush 11, 2) := by decide +kernel
theorem dX11_restLength_84 : decode cX11_restLength 84 = .ok (.ireturn, 1) := by decide +kernel
theorem dX11_restLength_85 : decode cX11_restLength 85 = .ok (.bipush 12, 2) := by decide +kernel
theorem dX11_restLength_87 : decode cX11_restLength 87 = .ok (.ireturn, 1) := by decide +kernel
theorem dX11_restLength_88 : decode cX11_restLength 88 = .ok (.bipush 16, 2) := by decide +kernel
theorem dX11_restLength_90 : decode cX11_restLength 90 = .ok (.ireturn, 1) := by decide +kernel
theorem dX11_restLength_91 : decode cX11_restLength 91 = .ok (.iconst 0, 1) := by decide +kernel
theorem dX11_restLength_92 : decode cX11_restLength 92 = .ok (.ireturn, 1) := by decide +kernel
theorem dX11_isCauseOf_0 : decode cX11_isCauseOf 0 = .ok (.iload_n 0, 1) := by decide +kernel
theorem dX11_isCauseOf_1 : decode cX11_isCauseOf 1 = .ok (.bipush 102, 2) := by decide +kernel
theorem dX11_isCauseOf_3 : decode cX11_isCauseOf 3 = .ok (.if_icmp .ne 14, 3) := by decide +kernel
theorem dX11_isCauseOf_6 : decode cX11_isCauseOf 6 = .ok (.iload_n 1, 1) := by decide +kernel
theorem dX11_isCauseOf_7 : decode cX11_isCauseOf 7 = .ok (.iconst 5, 1) := by decide +kernel
theorem dX11_isCauseOf_8 : decode cX11_isCauseOf 8 = .ok (.if_icmp .ne 7, 3) := by decide +kernel
theorem dX11_isCauseOf_11 : decode cX11_isCauseOf 11 = .ok (.iconst 1, 1) := by decide +kernel
theorem dX11_isCauseOf_12 : decode cX11_isCauseOf 12 = .ok (.goto 4, 3) := by decide +kernel
theorem dX11_isCauseOf_15 : decode cX11_isCauseOf 15 = .ok (.iconst 0, 1) := by decide +kernel
theorem dX11_isCauseOf_16 : decode cX11_isCauseOf 16 = .ok (.ireturn, 1) := by decide +kernel
theorem dX11_isCauseOf_17 : decode cX11_isCauseOf 17 = .ok (.iload_n 1, 1) := by decide +kernel
theorem dX11_isCauseOf_18 : decode cX11_isCauseOf 18 = .ok (.bipush 6, 2) := by decide +kernel
theorem dX11_isCauseOf_20 : decode cX11_isCauseOf 20 = .ok (.if_icmp .eq 15, 3) := by decide +kernel
theorem dX11_isCauseOf_23 : decode cX11_isCauseOf 23 = .ok (.iload_n 1, 1) := by decide +kernel
theorem dX11_isCauseOf_24 : decode cX11_isCauseOf 24 = .ok (.bipush 8, 2) := by decide +kernel
theorem dX11_isCauseOf_26 : decode cX11_isCauseOf 26 = .ok (.if_icmp .ne 13, 3) := by decide +kernel
theorem dX11_isCauseOf_29 : decode cX11_isCauseOf 29 = .ok (.iload_n 0, 1) := by decide +kernel
theorem dX11_isCauseOf_30 : decode cX11_isCauseOf 30 = .ok (.bipush 100, 2) := by decide +kernel
theorem dX11_isCauseOf_32 : decode cX11_isCauseOf 32 = .ok (.if_icmp .gt 7, 3) := by decide +kernel
theorem dX11_isCauseOf_35 : decode cX11_isCauseOf 35 = .ok (.iconst 1, 1) := by decide +kernel
theorem dX11_isCauseOf_36 : decode cX11_isCauseOf 36 = .ok (.goto 4, 3) := by decide +kernel
theorem dX11_isCauseOf_39 : decode cX11_isCauseOf 39 = .ok (.iconst 0, 1) := by decide +kernel
theorem dX11_isCauseOf_40 : decode cX11_isCauseOf 40 = .ok (.ireturn, 1) := by decide +kernel
theorem dX11_isAddressOf_0 : decode cX11_isAddressOf 0 = .ok (.iload_n 1, 1) := by decide +kernel
theorem dX11_isAddressOf_1 : decode cX11_isAddressOf 1 = .ok (.bipush 102, 2) := by decide +kernel
theorem dX11_isAddressOf_3 : decode cX11_isAddressOf 3 = .ok (.if_icmp .ne 20, 3) := by decide +kernel
theorem dX11_isAddressOf_6 : decode cX11_isAddressOf 6 = .ok (.aload_n 0, 1) := by decide +kernel
theorem dX11_isAddressOf_7 : decode cX11_isAddressOf 7 = .ok (.getfield 16, 3) := by decide +kernel
theorem dX11_isAddressOf_10 : decode cX11_isAddressOf 10 = .ok (.iload_n 2, 1) := by decide +kernel
theorem dX11_isAddressOf_11 : decode cX11_isAddressOf 11 = .ok (.invokevirtual 265, 3) := by decide +kernel
theorem dX11_isAddressOf_14 : decode cX11_isAddressOf 14 = .ok (.ifnull 7, 3) := by decide +kernel
theorem dX11_isAddressOf_17 : decode cX11_isAddressOf 17 = .ok (.iconst 1, 1) := by decide +kernel
theorem dX11_isAddressOf_18 : decode cX11_isAddressOf 18 = .ok (.goto 4, 3) := by decide +kernel
theorem dX11_isAddressOf_21 : decode cX11_isAddressOf 21 = .ok (.iconst 0, 1) := by decide +kernel
theorem dX11_isAddressOf_22 : decode cX11_isAddressOf 22 = .ok (.ireturn, 1) := by decide +kernel
theorem dX11_isAddressOf_23 : decode cX11_isAddressOf 23 = .ok (.iload_n 1, 1) := by decide +kernel
theorem dX11_isAddressOf_24 : decode cX11_isAddressOf 24 = .ok (.bipush 100, 2) := by decide +kernel
theorem dX11_isAddressOf_26 : decode cX11_isAddressOf 26 = .ok (.if_icmp .lt 13, 3) := by decide +kernel
theorem dX11_isAddressOf_29 : decode cX11_isAddressOf 29 = .ok (.iload_n 2, 1) := by decide +kernel
theorem dX11_isAddressOf_30 : decode cX11_isAddressOf 30 = .ok (.ifCond .ne 7, 3) := by decide +kernel
theorem dX11_isAddressOf_33 : decode cX11_isAddressOf 33 = .ok (.iconst 1, 1) := by decide +kernel
theorem dX11_isAddressOf_34 : decode cX11_isAddressOf 34 = .ok (.goto 4, 3) := by decide +kernel
theorem dX11_isAddressOf_37 : decode cX11_isAddressOf 37 = .ok (.iconst 0, 1) := by decide +kernel
theorem dX11_isAddressOf_38 : decode cX11_isAddressOf 38 = .ok (.ireturn, 1) := by decide +kernel
theorem dX11_isAddressOf_39 : decode cX11_isAddressOf 39 = .ok (.aload_n 0, 1) := by decide +kernel
theorem dX11_isAddressOf_40 : decode cX11_isAddressOf 40 = .ok (.iload_n 2, 1) := by decide +kernel
theorem dX11_isAddressOf_41 : decode cX11_isAddressOf 41 = .ok (.invokevirtual 268, 3) := by decide +kernel
theorem dX11_isAddressOf_44 : decode cX11_isAddressOf 44 = .ok (.astore_n 3, 1) := by decide +kernel
theorem dX11_isAddressOf_45 : decode cX11_isAddressOf 45 = .ok (.aload_n 3, 1) := by decide +kernel
theorem dX11_isAddressOf_46 : decode cX11_isAddressOf 46 = .ok (.ifnull 19, 3) := by decide +kernel
theorem dX11_isAddressOf_49 : decode cX11_isAddressOf 49 = .ok (.getstatic 412, 3) := by decide +kernel
theorem dX11_isAddressOf_52 : decode cX11_isAddressOf 52 = .ok (.aload_n 3, 1) := by decide +kernel
theorem dX11_isAddressOf_53 : decode cX11_isAddressOf 53 = .ok (.getfield 415, 3) := by decide +kernel
theorem dX11_isAddressOf_56 : decode cX11_isAddressOf 56 = .ok (.iaload, 1) := by decide +kernel
theorem dX11_isAddressOf_57 : decode cX11_isAddressOf 57 = .ok (.iload_n 1, 1) := by decide +kernel
theorem dX11_isAddressOf_58 : decode cX11_isAddressOf 58 = .ok (.if_icmp .ne 7, 3) := by decide +kernel
theorem dX11_isAddressOf_61 : decode cX11_isAddressOf 61 = .ok (.iconst 1, 1) := by decide +kernel
theorem dX11_isAddressOf_62 : decode cX11_isAddressOf 62 = .ok (.goto 4, 3) := by decide +kernel
theorem dX11_isAddressOf_65 : decode cX11_isAddressOf 65 = .ok (.iconst 0, 1) := by decide +kernel
theorem dX11_isAddressOf_66 : decode cX11_isAddressOf 66 = .ok (.ireturn, 1) := by decide +kernel
theorem dX11_commandCame_0 : decode cX11_commandCame 0 = .ok (.aload_n 1, 1) := by decide +kernel
theorem dX11_commandCame_1 : decode cX11_commandCame 1 = .ok (.ifnonnull 4, 3) := by decide +kernel
theorem dX11_commandCame_4 : decode cX11_commandCame 4 = .ok (.return_, 1) := by decide +kernel
theorem dX11_commandCame_5 : decode cX11_commandCame 5 = .ok (.aload_n 0, 1) := by decide +kernel
theorem dX11_commandCame_6 : decode cX11_commandCame 6 = .ok (.getfield 57, 3) := by decide +kernel
theorem dX11_commandCame_9 : decode cX11_commandCame 9 = .ok (.invokevirtual 416, 3) := by decide +kernel
theorem dX11_commandCame_12 : decode cX11_commandCame 12 = .ok (.istore_n 3, 1) := by decide +kernel
theorem dX11_commandCame_13 : decode cX11_commandCame 13 = .ok (.iload_n 2, 1) := by decide +kernel
theorem dX11_commandCame_14 : decode cX11_commandCame 14 = .ok (.bipush 8, 2) := by decide +kernel
theorem dX11_commandCame_16 : decode cX11_commandCame 16 = .ok (.if_icmp .ne 47, 3) := by decide +kernel
theorem dX11_commandCame_19 : decode cX11_commandCame 19 = .ok (.aload_n 0, 1) := by decide +kernel
theorem dX11_commandCame_20 : decode cX11_commandCame 20 = .ok (.getfield 29, 3) := by decide +kernel
theorem dX11_commandCame_23 : decode cX11_commandCame 23 = .ok (.aload_n 1, 1) := by decide +kernel
theorem dX11_commandCame_24 : decode cX11_commandCame 24 = .ok (.invokevirtual 211, 3) := by decide +kernel
theorem dX11_commandCame_27 : decode cX11_commandCame 27 = .ok (.istore 4, 2) := by decide +kernel
theorem dX11_commandCame_29 : decode cX11_commandCame 29 = .ok (.iload 4, 2) := by decide +kernel
theorem dX11_commandCame_31 : decode cX11_commandCame 31 = .ok (.ifCond .eq 14, 3) := by decide +kernel
theorem dX11_commandCame_34 : decode cX11_commandCame 34 = .ok (.iload_n 3, 1) := by decide +kernel
theorem dX11_commandCame_35 : decode cX11_commandCame 35 = .ok (.ifCond .ne 10, 3) := by decide +kernel
theorem dX11_commandCame_38 : decode cX11_commandCame 38 = .ok (.aload_n 0, 1) := by decide +kernel
theorem dX11_commandCame_39 : decode cX11_commandCame 39 = .ok (.getfield 29, 3) := by decide +kernel
theorem dX11_commandCame_42 : decode cX11_commandCame 42 = .ok (.invokevirtual 274, 3) := by decide +kernel
theorem dX11_commandCame_45 : decode cX11_commandCame 45 = .ok (.aload_n 0, 1) := by decide +kernel
theorem dX11_commandCame_46 : decode cX11_commandCame 46 = .ok (.iload 4, 2) := by decide +kernel
theorem dX11_commandCame_48 : decode cX11_commandCame 48 = .ok (.ifCond .eq 8, 3) := by decide +kernel
theorem dX11_commandCame_51 : decode cX11_commandCame 51 = .ok (.bipush 9, 2) := by decide +kernel
theorem dX11_commandCame_53 : decode cX11_commandCame 53 = .ok (.goto 5, 3) := by decide +kernel
theorem dX11_commandCame_56 : decode cX11_commandCame 56 = .ok (.bipush 73, 2) := by decide +kernel
theorem dX11_commandCame_58 : decode cX11_commandCame 58 = .ok (.invokevirtual 371, 3) := by decide +kernel
theorem dX11_commandCame_61 : decode cX11_commandCame 61 = .ok (.pop, 1) := by decide +kernel
theorem dX11_commandCame_62 : decode cX11_commandCame 62 = .ok (.return_, 1) := by decide +kernel
theorem dX11_commandCame_63 : decode cX11_commandCame 63 = .ok (.getstatic 419, 3) := by decide +kernel
theorem dX11_commandCame_66 : decode cX11_commandCame 66 = .ok (.aload_n 1, 1) := by decide +kernel
theorem dX11_commandCame_67 : decode cX11_commandCame 67 = .ok (.getfield 415, 3) := by decide +kernel
theorem dX11_commandCame_70 : decode cX11_commandCame 70 = .ok (.iaload, 1) := by decide +kernel
theorem dX11_commandCame_71 : decode cX11_commandCame 71 = .ok (.istore 4, 2) := by decide +kernel
theorem dX11_commandCame_73 : decode cX11_commandCame 73 = .ok (.aload_n 0, 1) := by decide +kernel
theorem dX11_commandCame_74 : decode cX11_commandCame 74 = .ok (.getfield 57, 3) := by decide +kernel
theorem dX11_commandCame_77 : decode cX11_commandCame 77 = .ok (.getfield 173, 3) := by decide +kernel
theorem dX11_commandCame_80 : decode cX11_commandCame 80 = .ok (.bipush 9, 2) := by decide +kernel
theorem dX11_commandCame_82 : decode cX11_commandCame 82 = .ok (.iload 4, 2) := by decide +kernel
theorem dX11_commandCame_84 : decode cX11_commandCame 84 = .ok (.invokevirtual 386, 3) := by decide +kernel
theorem dX11_commandCame_87 : decode cX11_commandCame 87 = .ok (.l2i, 1) := by decide +kernel
theorem dX11_commandCame_88 : decode cX11_commandCame 88 = .ok (.istore 5, 2) := by decide +kernel
theorem dX11_commandCame_90 : decode cX11_commandCame 90 = .ok (.sipush 128, 3) := by decide +kernel
theorem dX11_commandCame_93 : decode cX11_commandCame 93 = .ok (.bipush 8, 2) := by decide +kernel
theorem dX11_commandCame_95 : decode cX11_commandCame 95 = .ok (.iload 4, 2) := by decide +kernel
theorem dX11_commandCame_97 : decode cX11_commandCame 97 = .ok (.iconst 1, 1) := by decide +kernel
theorem dX11_commandCame_98 : decode cX11_commandCame 98 = .ok (.isub, 1) := by decide +kernel
theorem dX11_commandCame_99 : decode cX11_commandCame 99 = .ok (.imul, 1) := by decide +kernel
theorem dX11_commandCame_100 : decode cX11_commandCame 100 = .ok (.ishl, 1) := by decide +kernel
theorem dX11_commandCame_101 : decode cX11_commandCame 101 = .ok (.istore 6, 2) := by decide +kernel
theorem dX11_commandCame_103 : decode cX11_commandCame 103 = .ok (.aload_n 1, 1) := by decide +kernel
theorem dX11_commandCame_104 : decode cX11_commandCame 104 = .ok (.iload 5, 2) := by decide +kernel
theorem dX11_commandCame_106 : decode cX11_commandCame 106 = .ok (.invokevirtual 422, 3) := by decide +kernel
theorem dX11_commandCame_109 : decode cX11_commandCame 109 = .ok (.ifCond .ne 13, 3) := by decide +kernel
theorem dX11_commandCame_112 : decode cX11_commandCame 112 = .ok (.aload_n 0, 1) := by decide +kernel
theorem dX11_commandCame_113 : decode cX11_commandCame 113 = .ok (.bipush 71, 2) := by decide +kernel
theorem dX11_commandCame_115 : decode cX11_commandCame 115 = .ok (.invokevirtual 371, 3) := by decide +kernel
theorem dX11_commandCame_118 : decode cX11_commandCame 118 = .ok (.pop, 1) := by decide +kernel
theorem dX11_commandCame_119 : decode cX11_commandCame 119 = .ok (.goto 63, 3) := by decide +kernel
theorem dX11_commandCame_122 : decode cX11_commandCame 122 = .ok (.iload 5, 2) := by decide +kernel
theorem dX11_commandCame_124 : decode cX11_commandCame 124 = .ok (.iload 6, 2) := by decide +kernel
theorem dX11_commandCame_126 : decode cX11_commandCame 126 = .ok (.iand, 1) := by decide +kernel
theorem dX11_commandCame_127 : decode cX11_commandCame 127 = .ok (.ifCond .eq 19, 3) := by decide +kernel
theorem dX11_commandCame_130 : decode cX11_commandCame 130 = .ok (.aload_n 0, 1) := by decide +kernel
theorem dX11_commandCame_131 : decode cX11_commandCame 131 = .ok (.aload_n 1, 1) := by decide +kernel
theorem dX11_commandCame_132 : decode cX11_commandCame 132 = .ok (.iload 5, 2) := by decide +kernel
theorem dX11_commandCame_134 : decode cX11_commandCame 134 = .ok (.iload 6, 2) := by decide +kernel
theorem dX11_commandCame_136 : decode cX11_commandCame 136 = .ok (.iconst (-1), 1) := by decide +kernel
theorem dX11_commandCame_137 : decode cX11_commandCame 137 = .ok (.ixor, 1) := by decide +kernel
theorem dX11_commandCame_138 : decode cX11_commandCame 138 = .ok (.iand, 1) := by decide +kernel
theorem dX11_commandCame_139 : decode cX11_commandCame 139 = .ok (.iload_n 3, 1) := by decide +kernel
theorem dX11_commandCame_140 : decode cX11_commandCame 140 = .ok (.invokevirtual 425, 3) := by decide +kernel
theorem dX11_commandCame_143 : decode cX11_commandCame 143 = .ok (.goto 39, 3) := by decide +kernel
theorem dX11_commandCame_146 : decode cX11_commandCame 146 = .ok (.aload_n 1, 1) := by decide +kernel
theorem dX11_commandCame_147 : decode cX11_commandCame 147 = .ok (.getfield 429, 3) := by decide +kernel
theorem dX11_commandCame_150 : decode cX11_commandCame 150 = .ok (.ifCond .eq 24, 3) := by decide +kernel
theorem dX11_commandCame_153 : decode cX11_commandCame 153 = .ok (.aload_n 0, 1) := by decide +kernel
theorem dX11_commandCame_154 : decode cX11_commandCame 154 = .ok (.aload_n 1, 1) := by decide +kernel
theorem dX11_commandCame_155 : decode cX11_commandCame 155 = .ok (.iload 5, 2) := by decide +kernel
theorem dX11_commandCame_157 : decode cX11_commandCame 157 = .ok (.iload_n 3, 1) := by decide +kernel
theorem dX11_commandCame_158 : decode cX11_commandCame 158 = .ok (.invokevirtual 432, 3) := by decide +kernel
theorem dX11_commandCame_161 : decode cX11_commandCame 161 = .ok (.ifCond .ne 13, 3) := by decide +kernel
theorem dX11_commandCame_164 : decode cX11_commandCame 164 = .ok (.aload_n 0, 1) := by decide +kernel
theorem dX11_commandCame_165 : decode cX11_commandCame 165 = .ok (.bipush 71, 2) := by decide +kernel
theorem dX11_commandCame_167 : decode cX11_commandCame 167 = .ok (.invokevirtual 371, 3) := by decide +kernel
theorem dX11_commandCame_170 : decode cX11_commandCame 170 = .ok (.pop, 1) := by decide +kernel
theorem dX11_commandCame_171 : decode cX11_commandCame 171 = .ok (.goto 11, 3) := by decide +kernel
theorem dX11_commandCame_174 : decode cX11_commandCame 174 = .ok (.aload_n 0, 1) := by decide +kernel
theorem dX11_commandCame_175 : decode cX11_commandCame 175 = .ok (.aload_n 1, 1) := by decide +kernel
theorem dX11_commandCame_176 : decode cX11_commandCame 176 = .ok (.iload 5, 2) := by decide +kernel
theorem dX11_commandCame_178 : decode cX11_commandCame 178 = .ok (.iload_n 3, 1) := by decide +kernel
theorem dX11_commandCame_179 : decode cX11_commandCame 179 = .ok (.invokevirtual 436, 3) := by decide +kernel
theorem dX11_commandCame_182 : decode cX11_commandCame 182 = .ok (.return_, 1) := by decide +kernel
theorem dX11_selectCame_0 : decode cX11_selectCame 0 = .ok (.aload_n 1, 1) := by decide +kernel
theorem dX11_selectCame_1 : decode cX11_selectCame 1 = .ok (.getfield 429, 3) := by decide +kernel
theorem dX11_selectCame_4 : decode cX11_selectCame 4 = .ok (.ifCond .eq 13, 3) := by decide +kernel
theorem dX11_selectCame_7 : decode cX11_selectCame 7 = .ok (.aload_n 0, 1) := by decide +kernel
theorem dX11_selectCame_8 : decode cX11_selectCame 8 = .ok (.getfield 29, 3) := by decide +kernel
theorem dX11_selectCame_11 : decode cX11_selectCame 11 = .ok (.invokevirtual 439, 3) := by decide +kernel
theorem dX11_selectCame_14 : decode cX11_selectCame 14 = .ok (.ifCond .eq 11, 3) := by decide +kernel
theorem dX11_selectCame_17 : decode cX11_selectCame 17 = .ok (.aload_n 0, 1) := by decide +kernel
theorem dX11_selectCame_18 : decode cX11_selectCame 18 = .ok (.bipush 71, 2) := by decide +kernel
theorem dX11_selectCame_20 : decode cX11_selectCame 20 = .ok (.invokevirtual 371, 3) := by decide +kernel
theorem dX11_selectCame_23 : decode cX11_selectCame 23 = .ok (.pop, 1) := by decide +kernel
theorem dX11_selectCame_24 : decode cX11_selectCame 24 = .ok (.return_, 1) := by decide +kernel
theorem dX11_selectCame_25 : decode cX11_selectCame 25 = .ok (.aload_n 0, 1) := by decide +kernel
theorem dX11_selectCame_26 : decode cX11_selectCame 26 = .ok (.bipush 7, 2) := by decide +kernel
theorem dX11_selectCame_28 : decode cX11_selectCame 28 = .ok (.invokevirtual 371, 3) := by decide +kernel
theorem dX11_selectCame_31 : decode cX11_selectCame 31 = .ok (.ifCond .eq 30, 3) := by decide +kernel
theorem dX11_selectCame_34 : decode cX11_selectCame 34 = .ok (.iload_n 3, 1) := by decide +kernel
theorem dX11_selectCame_35 : decode cX11_selectCame 35 = .ok (.ifCond .ne 26, 3) := by decide +kernel
theorem dX11_selectCame_38 : decode cX11_selectCame 38 = .ok (.aload_n 0, 1) := by decide +kernel
theorem dX11_selectCame_39 : decode cX11_selectCame 39 = .ok (.getfield 29, 3) := by decide +kernel
theorem dX11_selectCame_42 : decode cX11_selectCame 42 = .ok (.aload_n 1, 1) := by decide +kernel
theorem dX11_selectCame_43 : decode cX11_selectCame 43 = .ok (.iload_n 2, 1) := by decide +kernel
theorem dX11_selectCame_44 : decode cX11_selectCame 44 = .ok (.aload_n 0, 1) := by decide +kernel
theorem dX11_selectCame_45 : decode cX11_selectCame 45 = .ok (.getfield 57, 3) := by decide +kernel
theorem dX11_selectCame_48 : decode cX11_selectCame 48 = .ok (.invokevirtual 442, 3) := by decide +kernel
theorem dX11_selectCame_51 : decode cX11_selectCame 51 = .ok (.aload_n 0, 1) := by decide +kernel
theorem dX11_selectCame_52 : decode cX11_selectCame 52 = .ok (.getfield 7, 3) := by decide +kernel
theorem dX11_selectCame_55 : decode cX11_selectCame 55 = .ok (.bipush 6, 2) := by decide +kernel
theorem dX11_selectCame_57 : decode cX11_selectCame 57 = .ok (.iaload, 1) := by decide +kernel
theorem dX11_selectCame_58 : decode cX11_selectCame 58 = .ok (.invokevirtual 445, 3) := by decide +kernel
theorem dX11_selectCame_61 : decode cX11_selectCame 61 = .ok (.return_, 1) := by decide +kernel
theorem dX11_endSelection_0 : decode cX11_endSelection 0 = .ok (.aload_n 0, 1) := by decide +kernel
theorem dX11_endSelection_1 : decode cX11_endSelection 1 = .ok (.getfield 29, 3) := by decide +kernel
theorem dX11_endSelection_4 : decode cX11_endSelection 4 = .ok (.aload_n 1, 1) := by decide +kernel
theorem dX11_endSelection_5 : decode cX11_endSelection 5 = .ok (.invokevirtual 211, 3) := by decide +kernel
theorem dX11_endSelection_8 : decode cX11_endSelection 8 = .ok (.ifCond .ne 5, 3) := by decide +kernel
theorem dX11_endSelection_11 : decode cX11_endSelection 11 = .ok (.iconst 0, 1) := by decide +kernel
theorem dX11_endSelection_12 : decode cX11_endSelection 12 = .ok (.ireturn, 1) := by decide +kernel
theorem dX11_endSelection_13 : decode cX11_endSelection 13 = .ok (.aload_n 0, 1) := by decide +kernel
theorem dX11_endSelection_14 : decode cX11_endSelection 14 = .ok (.getfield 29, 3) := by decide +kernel
theorem dX11_endSelection_17 : decode cX11_endSelection 17 = .ok (.getfield 449, 3) := by decide +kernel
theorem dX11_endSelection_20 : decode cX11_endSelection 20 = .ok (.iload_n 2, 1) := by decide +kernel
theorem dX11_endSelection_21 : decode cX11_endSelection 21 = .ok (.if_icmp .ne 24, 3) := by decide +kernel
theorem dX11_endSelection_24 : decode cX11_endSelection 24 = .ok (.aload_n 0, 1) := by decide +kernel
theorem dX11_endSelection_25 : decode cX11_endSelection 25 = .ok (.getfield 29, 3) := by decide +kernel
theorem dX11_endSelection_28 : decode cX11_endSelection 28 = .ok (.getfield 452, 3) := by decide +kernel
theorem dX11_endSelection_31 : decode cX11_endSelection 31 = .ok (.aload_n 0, 1) := by decide +kernel
theorem dX11_endSelection_32 : decode cX11_endSelection 32 = .ok (.getfield 57, 3) := by decide +kernel
theorem dX11_endSelection_35 : decode cX11_endSelection 35 = .ok (.invokevirtual 442, 3) := by decide +kernel
theorem dX11_endSelection_38 : decode cX11_endSelection 38 = .ok (.if_icmp .ne 7, 3) := by decide +kernel
theorem dX11_endSelection_41 : decode cX11_endSelection 41 = .ok (.iconst 1, 1) := by decide +kernel
theorem dX11_endSelection_42 : decode cX11_endSelection 42 = .ok (.goto 4, 3) := by decide +kernel
theorem dX11_endSelection_45 : decode cX11_endSelection 45 = .ok (.iconst 0, 1) := by decide +kernel
theorem dX11_endSelection_46 : decode cX11_endSelection 46 = .ok (.istore 4, 2) := by decide +kernel
theorem dX11_endSelection_48 : decode cX11_endSelection 48 = .ok (.iload_n 3, 1) := by decide +kernel
theorem dX11_endSelection_49 : decode cX11_endSelection 49 = .ok (.ifCond .ne 10, 3) := by decide +kernel
theorem dX11_endSelection_52 : decode cX11_endSelection 52 = .ok (.aload_n 0, 1) := by decide +kernel
theorem dX11_endSelection_53 : decode cX11_endSelection 53 = .ok (.getfield 29, 3) := by decide +kernel
theorem dX11_endSelection_56 : decode cX11_endSelection 56 = .ok (.invokevirtual 274, 3) := by decide +kernel
theorem dX11_endSelection_59 : decode cX11_endSelection 59 = .ok (.iload 4, 2) := by decide +kernel
theorem dX11_endSelection_61 : decode cX11_endSelection 61 = .ok (.ireturn, 1) := by decide +kernel
theorem dX11_carryOut_0 : decode cX11_carryOut 0 = .ok (.aload_n 0, 1) := by decide +kernel
theorem dX11_carryOut_1 : decode cX11_carryOut 1 = .ok (.bipush 7, 2) := by decide +kernel
theorem dX11_carryOut_3 : decode cX11_carryOut 3 = .ok (.invokevirtual 371, 3) := by decide +kernel
theorem dX11_carryOut_6 : decode cX11_carryOut 6 = .ok (.ifCond .ne 4, 3) := by decide +kernel
theorem dX11_carryOut_9 : decode cX11_carryOut 9 = .ok (.return_, 1) := by decide +kernel
theorem dX11_carryOut_10 : decode cX11_carryOut 10 = .ok (.iload_n 3, 1) := by decide +kernel
theorem dX11_carryOut_11 : decode cX11_carryOut 11 = .ok (.ifCond .ne 42, 3) := by decide +kernel
theorem dX11_carryOut_14 : decode cX11_carryOut 14 = .ok (.aload_n 1, 1) := by decide +kernel
theorem dX11_carryOut_15 : decode cX11_carryOut 15 = .ok (.dup, 1) := by decide +kernel
theorem dX11_carryOut_16 : decode cX11_carryOut 16 = .ok (.getfield 218, 3) := by decide +kernel
theorem dX11_carryOut_19 : decode cX11_carryOut 19 = .ok (.iconst 1, 1) := by decide +kernel
theorem dX11_carryOut_20 : decode cX11_carryOut 20 = .ok (.iadd, 1) := by decide +kernel
theorem dX11_carryOut_21 : decode cX11_carryOut 21 = .ok (.putfield 218, 3) := by decide +kernel
theorem dX11_carryOut_24 : decode cX11_carryOut 24 = .ok (.aload_n 1, 1) := by decide +kernel
theorem dX11_carryOut_25 : decode cX11_carryOut 25 = .ok (.getfield 454, 3) := by decide +kernel
theorem dX11_carryOut_28 : decode cX11_carryOut 28 = .ok (.astore 4, 2) := by decide +kernel
theorem dX11_carryOut_30 : decode cX11_carryOut 30 = .ok (.aload 4, 2) := by decide +kernel
theorem dX11_carryOut_32 : decode cX11_carryOut 32 = .ok (.ifnull 21, 3) := by decide +kernel
theorem dX11_carryOut_35 : decode cX11_carryOut 35 = .ok (.aload 4, 2) := by decide +kernel
theorem dX11_carryOut_37 : decode cX11_carryOut 37 = .ok (.aload_n 1, 1) := by decide +kernel
theorem dX11_carryOut_38 : decode cX11_carryOut 38 = .ok (.iload_n 2, 1) := by decide +kernel
theorem dX11_carryOut_39 : decode cX11_carryOut 39 = .ok (.invokevirtual 458, 3) := by decide +kernel
theorem dX11_carryOut_42 : decode cX11_carryOut 42 = .ok (.putfield 121, 3) := by decide +kernel
theorem dX11_carryOut_45 : decode cX11_carryOut 45 = .ok (.aload_n 0, 1) := by decide +kernel
theorem dX11_carryOut_46 : decode cX11_carryOut 46 = .ok (.aload 4, 2) := by decide +kernel
theorem dX11_carryOut_48 : decode cX11_carryOut 48 = .ok (.bipush 11, 2) := by decide +kernel
theorem dX11_carryOut_50 : decode cX11_carryOut 50 = .ok (.invokevirtual 461, 3) := by decide +kernel
theorem dX11_carryOut_53 : decode cX11_carryOut 53 = .ok (.aload_n 0, 1) := by decide +kernel
theorem dX11_carryOut_54 : decode cX11_carryOut 54 = .ok (.bipush 10, 2) := by decide +kernel
theorem dX11_carryOut_56 : decode cX11_carryOut 56 = .ok (.invokevirtual 371, 3) := by decide +kernel
theorem dX11_carryOut_59 : decode cX11_carryOut 59 = .ok (.pop, 1) := by decide +kernel
theorem dX11_carryOut_60 : decode cX11_carryOut 60 = .ok (.return_, 1) := by decide +kernel
theorem dX11_readCame_0 : decode cX11_readCame 0 = .ok (.aload_n 1, 1) := by decide +kernel
theorem dX11_readCame_1 : decode cX11_readCame 1 = .ok (.ifnull 19, 3) := by decide +kernel
theorem dX11_readCame_4 : decode cX11_readCame 4 = .ok (.aload_n 0, 1) := by decide +kernel
theorem dX11_readCame_5 : decode cX11_readCame 5 = .ok (.getfield 57, 3) := by decide +kernel
theorem dX11_readCame_8 : decode cX11_readCame 8 = .ok (.invokevirtual 416, 3) := by decide +kernel
theorem dX11_readCame_11 : decode cX11_readCame 11 = .ok (.ifCond .ne 9, 3) := by decide +kernel
theorem dX11_readCame_14 : decode cX11_readCame 14 = .ok (.aload_n 0, 1) := by decide +kernel
theorem dX11_readCame_15 : decode cX11_readCame 15 = .ok (.aload_n 1, 1) := by decide +kernel
theorem dX11_readCame_16 : decode cX11_readCame 16 = .ok (.iconst 5, 1) := by decide +kernel
theorem dX11_readCame_17 : decode cX11_readCame 17 = .ok (.invokevirtual 461, 3) := by decide +kernel
theorem dX11_readCame_20 : decode cX11_readCame 20 = .ok (.return_, 1) := by decide +kernel
theorem dX11_interrogationCame_0 : decode cX11_interrogationCame 0 = .ok (.iload_n 1, 1) := by decide +kernel
theorem dX11_interrogationCame_1 : decode cX11_interrogationCame 1 = .ok (.bipush 8, 2) := by decide +kernel
theorem dX11_interrogationCame_3 : decode cX11_interrogationCame 3 = .ok (.if_icmp .ne 13, 3) := by decide +kernel
theorem dX11_interrogationCame_6 : decode cX11_interrogationCame 6 = .ok (.aload_n 0, 1) := by decide +kernel
theorem dX11_interrogationCame_7 : decode cX11_interrogationCame 7 = .ok (.bipush 73, 2) := by decide +kernel
theorem dX11_interrogationCame_9 : decode cX11_interrogationCame 9 = .ok (.invokevirtual 371, 3) := by decide +kernel
theorem dX11_interrogationCame_12 : decode cX11_interrogationCame 12 = .ok (.pop, 1) := by decide +kernel
theorem dX11_interrogationCame_13 : decode cX11_interrogationCame 13 = .ok (.goto 54, 3) := by decide +kernel
theorem dX11_interrogationCame_16 : decode cX11_interrogationCame 16 = .ok (.iload_n 2, 1) := by decide +kernel
theorem dX11_interrogationCame_17 : decode cX11_interrogationCame 17 = .ok (.bipush 20, 2) := by decide +kernel
theorem dX11_interrogationCame_19 : decode cX11_interrogationCame 19 = .ok (.if_icmp .lt 9, 3) := by decide +kernel
theorem dX11_interrogationCame_22 : decode cX11_interrogationCame 22 = .ok (.iload_n 2, 1) := by decide +kernel
theorem dX11_interrogationCame_23 : decode cX11_interrogationCame 23 = .ok (.bipush 36, 2) := by decide +kernel
theorem dX11_interrogationCame_25 : decode cX11_interrogationCame 25 = .ok (.if_icmp .le 13, 3) := by decide +kernel
theorem dX11_interrogationCame_28 : decode cX11_interrogationCame 28 = .ok (.aload_n 0, 1) := by decide +kernel
theorem dX11_interrogationCame_29 : decode cX11_interrogationCame 29 = .ok (.bipush 71, 2) := by decide +kernel
theorem dX11_interrogationCame_31 : decode cX11_interrogationCame 31 = .ok (.invokevirtual 371, 3) := by decide +kernel
theorem dX11_interrogationCame_34 : decode cX11_interrogationCame 34 = .ok (.pop, 1) := by decide +kernel
theorem dX11_interrogationCame_35 : decode cX11_interrogationCame 35 = .ok (.goto 32, 3) := by decide +kernel
theorem dX11_interrogationCame_38 : decode cX11_interrogationCame 38 = .ok (.aload_n 0, 1) := by decide +kernel
theorem dX11_interrogationCame_39 : decode cX11_interrogationCame 39 = .ok (.bipush 7, 2) := by decide +kernel
theorem dX11_interrogationCame_41 : decode cX11_interrogationCame 41 = .ok (.invokevirtual 371, 3) := by decide +kernel
theorem dX11_interrogationCame_44 : decode cX11_interrogationCame 44 = .ok (.pop, 1) := by decide +kernel
theorem dX11_interrogationCame_45 : decode cX11_interrogationCame 45 = .ok (.aload_n 0, 1) := by decide +kernel
theorem dX11_interrogationCame_46 : decode cX11_interrogationCame 46 = .ok (.getfield 57, 3) := by decide +kernel
theorem dX11_interrogationCame_49 : decode cX11_interrogationCame 49 = .ok (.invokevirtual 416, 3) := by decide +kernel
theorem dX11_interrogationCame_52 : decode cX11_interrogationCame 52 = .ok (.ifCond .ne 8, 3) := by decide +kernel
theorem dX11_interrogationCame_55 : decode cX11_interrogationCame 55 = .ok (.aload_n 0, 1) := by decide +kernel
theorem dX11_interrogationCame_56 : decode cX11_interrogationCame 56 = .ok (.iload_n 2, 1) := by decide +kernel
theorem dX11_interrogationCame_57 : decode cX11_interrogationCame 57 = .ok (.invokevirtual 465, 3) := by decide +kernel
theorem dX11_interrogationCame_60 : decode cX11_interrogationCame 60 = .ok (.aload_n 0, 1) := by decide +kernel
theorem dX11_interrogationCame_61 : decode cX11_interrogationCame 61 = .ok (.bipush 10, 2) := by decide +kernel
theorem dX11_interrogationCame_63 : decode cX11_interrogationCame 63 = .ok (.invokevirtual 371, 3) := by decide +kernel
theorem dX11_interrogationCame_66 : decode cX11_interrogationCame 66 = .ok (.pop, 1) := by decide +kernel
theorem dX11_interrogationCame_67 : decode cX11_interrogationCame 67 = .ok (.return_, 1) := by decide +kernel
theorem dX11_countersOrderCame_0 : decode cX11_countersOrderCame 0 = .ok (.iload_n 1, 1) := by decide +kernel
theorem dX11_countersOrderCame_1 : decode cX11_countersOrderCame 1 = .ok (.bipush 63, 2) := by decide +kernel
theorem dX11_countersOrderCame_3 : decode cX11_countersOrderCame 3 = .ok (.iand, 1) := by decide +kernel
theorem dX11_countersOrderCame_4 : decode cX11_countersOrderCame 4 = .ok (.iconst 5, 1) := by decide +kernel
theorem dX11_countersOrderCame_5 : decode cX11_countersOrderCame 5 = .ok (.if_icmp .eq 13, 3) := by decide +kernel
theorem dX11_countersOrderCame_8 : decode cX11_countersOrderCame 8 = .ok (.aload_n 0, 1) := by decide +kernel
theorem dX11_countersOrderCame_9 : decode cX11_countersOrderCame 9 = .ok (.bipush 71, 2) := by decide +kernel
theorem dX11_countersOrderCame_11 : decode cX11_countersOrderCame 11 = .ok (.invokevirtual 371, 3) := by decide +kernel
theorem dX11_countersOrderCame_14 : decode cX11_countersOrderCame 14 = .ok (.pop, 1) := by decide +kernel
theorem dX11_countersOrderCame_15 : decode cX11_countersOrderCame 15 = .ok (.goto 37, 3) := by decide +kernel
theorem dX11_countersOrderCame_18 : decode cX11_countersOrderCame 18 = .ok (.aload_n 0, 1) := by decide +kernel
theorem dX11_countersOrderCame_19 : decode cX11_countersOrderCame 19 = .ok (.bipush 7, 2) := by decide +kernel
theorem dX11_countersOrderCame_21 : decode cX11_countersOrderCame 21 = .ok (.invokevirtual 371, 3) := by decide +kernel
theorem dX11_countersOrderCame_24 : decode cX11_countersOrderCame 24 = .ok (.ifCond .eq 28, 3) := by decide +kernel
theorem dX11_countersOrderCame_27 : decode cX11_countersOrderCame 27 = .ok (.aload_n 0, 1) := by decide +kernel
theorem dX11_countersOrderCame_28 : decode cX11_countersOrderCame 28 = .ok (.getfield 57, 3) := by decide +kernel
theorem dX11_countersOrderCame_31 : decode cX11_countersOrderCame 31 = .ok (.invokevirtual 416, 3) := by decide +kernel
theorem dX11_countersOrderCame_34 : decode cX11_countersOrderCame 34 = .ok (.ifCond .ne 11, 3) := by decide +kernel
theorem dX11_countersOrderCame_37 : decode cX11_countersOrderCame 37 = .ok (.aload_n 0, 1) := by decide +kernel
theorem dX11_countersOrderCame_38 : decode cX11_countersOrderCame 38 = .ok (.iload_n 1, 1) := by decide +kernel
theorem dX11_countersOrderCame_39 : decode cX11_countersOrderCame 39 = .ok (.bipush 6, 2) := by decide +kernel
theorem dX11_countersOrderCame_41 : decode cX11_countersOrderCame 41 = .ok (.ishr, 1) := by decide +kernel
theorem dX11_countersOrderCame_42 : decode cX11_countersOrderCame 42 = .ok (.invokevirtual 468, 3) := by decide +kernel
theorem dX11_countersOrderCame_45 : decode cX11_countersOrderCame 45 = .ok (.aload_n 0, 1) := by decide +kernel
theorem dX11_countersOrderCame_46 : decode cX11_countersOrderCame 46 = .ok (.bipush 10, 2) := by decide +kernel
theorem dX11_countersOrderCame_48 : decode cX11_countersOrderCame 48 = .ok (.invokevirtual 371, 3) := by decide +kernel
theorem dX11_countersOrderCame_51 : decode cX11_countersOrderCame 51 = .ok (.pop, 1) := by decide +kernel
theorem dX11_countersOrderCame_52 : decode cX11_countersOrderCame 52 = .ok (.return_, 1) := by decide +kernel
theorem dX11_orderCounters_0 : decode cX11_orderCounters 0 = .ok (.iload_n 1, 1) := by decide +kernel
theorem dX11_orderCounters_1 : decode cX11_orderCounters 1 = .ok (.ifCond .ne 10, 3) := by decide +kernel
theorem dX11_orderCounters_4 : decode cX11_orderCounters 4 = .ok (.aload_n 0, 1) := by decide +kernel
theorem dX11_orderCounters_5 : decode cX11_orderCounters 5 = .ok (.bipush 37, 2) := by decide +kernel
theorem dX11_orderCounters_7 : decode cX11_orderCounters 7 = .ok (.invokevirtual 465, 3) := by decide +kernel
theorem dX11_orderCounters_10 : decode cX11_orderCounters 10 = .ok (.return_, 1) := by decide +kernel
theorem dX11_orderCounters_11 : decode cX11_orderCounters 11 = .ok (.iload_n 1, 1) := by decide +kernel
theorem dX11_orderCounters_12 : decode cX11_orderCounters 12 = .ok (.iconst 3, 1) := by decide +kernel
theorem dX11_orderCounters_13 : decode cX11_orderCounters 13 = .ok (.if_icmp .eq 20, 3) := by decide +kernel
theorem dX11_orderCounters_16 : decode cX11_orderCounters 16 = .ok (.aload_n 0, 1) := by decide +kernel
theorem dX11_orderCounters_17 : decode cX11_orderCounters 17 = .ok (.getfield 16, 3) := by decide +kernel
theorem dX11_orderCounters_20 : decode cX11_orderCounters 20 = .ok (.invokevirtual 471, 3) := by decide +kernel
theorem dX11_orderCounters_23 : decode cX11_orderCounters 23 = .ok (.aload_n 0, 1) := by decide +kernel
theorem dX11_orderCounters_24 : decode cX11_orderCounters 24 = .ok (.dup, 1) := by decide +kernel
theorem dX11_orderCounters_25 : decode cX11_orderCounters 25 = .ok (.getfield 131, 3) := by decide +kernel
theorem dX11_orderCounters_28 : decode cX11_orderCounters 28 = .ok (.iconst 1, 1) := by decide +kernel
theorem dX11_orderCounters_29 : decode cX11_orderCounters 29 = .ok (.iadd, 1) := by decide +kernel
theorem dX11_orderCounters_30 : decode cX11_orderCounters 30 = .ok (.putfield 131, 3) := by decide +kernel
theorem dX11_orderCounters_33 : decode cX11_orderCounters 33 = .ok (.iload_n 1, 1) := by decide +kernel
theorem dX11_orderCounters_34 : decode cX11_orderCounters 34 = .ok (.iconst 1, 1) := by decide +kernel
theorem dX11_orderCounters_35 : decode cX11_orderCounters 35 = .ok (.if_icmp .eq 10, 3) := by decide +kernel
theorem dX11_orderCounters_38 : decode cX11_orderCounters 38 = .ok (.aload_n 0, 1) := by decide +kernel
theorem dX11_orderCounters_39 : decode cX11_orderCounters 39 = .ok (.getfield 16, 3) := by decide +kernel
theorem dX11_orderCounters_42 : decode cX11_orderCounters 42 = .ok (.invokevirtual 474, 3) := by decide +kernel
theorem dX11_orderCounters_45 : decode cX11_orderCounters 45 = .ok (.return_, 1) := by decide +kernel
theorem dX11_clockOrderCame_0 : decode cX11_clockOrderCame 0 = .ok (.lload_n 1, 1) := by decide +kernel
theorem dX11_clockOrderCame_1 : decode cX11_clockOrderCame 1 = .ok (.invokestatic 477, 3) := by decide +kernel
theorem dX11_clockOrderCame_4 : decode cX11_clockOrderCame 4 = .ok (.ifCond .ne 13, 3) := by decide +kernel
theorem dX11_clockOrderCame_7 : decode cX11_clockOrderCame 7 = .ok (.aload_n 0, 1) := by decide +kernel
theorem dX11_clockOrderCame_8 : decode cX11_clockOrderCame 8 = .ok (.bipush 71, 2) := by decide +kernel
theorem dX11_clockOrderCame_10 : decode cX11_clockOrderCame 10 = .ok (.invokevirtual 371, 3) := by decide +kernel
theorem dX11_clockOrderCame_13 : decode cX11_clockOrderCame 13 = .ok (.pop, 1) := by decide +kernel
theorem dX11_clockOrderCame_14 : decode cX11_clockOrderCame 14 = .ok (.goto 30, 3) := by decide +kernel
theorem dX11_clockOrderCame_17 : decode cX11_clockOrderCame 17 = .ok (.aload_n 0, 1) := by decide +kernel
theorem dX11_clockOrderCame_18 : decode cX11_clockOrderCame 18 = .ok (.bipush 7, 2) := by decide +kernel
theorem dX11_clockOrderCame_20 : decode cX11_clockOrderCame 20 = .ok (.invokevirtual 371, 3) := by decide +kernel
theorem dX11_clockOrderCame_23 : decode cX11_clockOrderCame 23 = .ok (.ifCond .eq 21, 3) := by decide +kernel
theorem dX11_clockOrderCame_26 : decode cX11_clockOrderCame 26 = .ok (.aload_n 0, 1) := by decide +kernel
theorem dX11_clockOrderCame_27 : decode cX11_clockOrderCame 27 = .ok (.getfield 57, 3) := by decide +kernel
theorem dX11_clockOrderCame_30 : decode cX11_clockOrderCame 30 = .ok (.invokevirtual 416, 3) := by decide +kernel
theorem dX11_clockOrderCame_33 : decode cX11_clockOrderCame 33 = .ok (.ifCond .ne 11, 3) := by decide +kernel
theorem dX11_clockOrderCame_36 : decode cX11_clockOrderCame 36 = .ok (.aload_n 0, 1) := by decide +kernel
theorem dX11_clockOrderCame_37 : decode cX11_clockOrderCame 37 = .ok (.getfield 36, 3) := by decide +kernel
theorem dX11_clockOrderCame_40 : decode cX11_clockOrderCame 40 = .ok (.lload_n 1, 1) := by decide +kernel
theorem dX11_clockOrderCame_41 : decode cX11_clockOrderCame 41 = .ok (.invokevirtual 481, 3) := by decide +kernel
theorem dX11_clockOrderCame_44 : decode cX11_clockOrderCame 44 = .ok (.return_, 1) := by decide +kernel
theorem dX11_answerSame_0 : decode cX11_answerSame 0 = .ok (.aload_n 0, 1) := by decide +kernel
theorem dX11_answerSame_1 : decode cX11_answerSame 1 = .ok (.getfield 50, 3) := by decide +kernel
theorem dX11_answerSame_4 : decode cX11_answerSame 4 = .ok (.invokevirtual 484, 3) := by decide +kernel
theorem dX11_answerSame_7 : decode cX11_answerSame 7 = .ok (.astore_n 2, 1) := by decide +kernel
theorem dX11_answerSame_8 : decode cX11_answerSame 8 = .ok (.aload_n 2, 1) := by decide +kernel
theorem dX11_answerSame_9 : decode cX11_answerSame 9 = .ok (.aload_n 0, 1) := by decide +kernel
theorem dX11_answerSame_10 : decode cX11_answerSame 10 = .ok (.getfield 57, 3) := by decide +kernel
theorem dX11_answerSame_13 : decode cX11_answerSame 13 = .ok (.getfield 173, 3) := by decide +kernel
theorem dX11_answerSame_16 : decode cX11_answerSame 16 = .ok (.invokevirtual 486, 3) := by decide +kernel
theorem dX11_answerSame_19 : decode cX11_answerSame 19 = .ok (.aload_n 2, 1) := by decide +kernel
theorem dX11_answerSame_20 : decode cX11_answerSame 20 = .ok (.iconst 2, 1) := by decide +kernel
theorem dX11_answerSame_21 : decode cX11_answerSame 21 = .ok (.iload_n 1, 1) := by decide +kernel
theorem dX11_answerSame_22 : decode cX11_answerSame 22 = .ok (.aload_n 0, 1) := by decide +kernel
theorem dX11_answerSame_23 : decode cX11_answerSame 23 = .ok (.getfield 57, 3) := by decide +kernel
theorem dX11_answerSame_26 : decode cX11_answerSame 26 = .ok (.getfield 173, 3) := by decide +kernel
theorem dX11_answerSame_29 : decode cX11_answerSame 29 = .ok (.iconst 2, 1) := by decide +kernel
theorem dX11_answerSame_30 : decode cX11_answerSame 30 = .ok (.invokevirtual 318, 3) := by decide +kernel
theorem dX11_answerSame_33 : decode cX11_answerSame 33 = .ok (.sipush 128, 3) := by decide +kernel
theorem dX11_answerSame_36 : decode cX11_answerSame 36 = .ok (.iand, 1) := by decide +kernel
theorem dX11_answerSame_37 : decode cX11_answerSame 37 = .ok (.ior, 1) := by decide +kernel
theorem dX11_answerSame_38 : decode cX11_answerSame 38 = .ok (.invokevirtual 489, 3) := by decide +kernel
theorem dX11_answerSame_41 : decode cX11_answerSame 41 = .ok (.aload_n 0, 1) := by decide +kernel
theorem dX11_answerSame_42 : decode cX11_answerSame 42 = .ok (.getfield 50, 3) := by decide +kernel
theorem dX11_answerSame_45 : decode cX11_answerSame 45 = .ok (.getfield 398, 3) := by decide +kernel
theorem dX11_answerSame_48 : decode cX11_answerSame 48 = .ok (.ifCond .ne 7, 3) := by decide +kernel
theorem dX11_answerSame_51 : decode cX11_answerSame 51 = .ok (.iconst 1, 1) := by decide +kernel
theorem dX11_answerSame_52 : decode cX11_answerSame 52 = .ok (.goto 4, 3) := by decide +kernel
theorem dX11_answerSame_55 : decode cX11_answerSame 55 = .ok (.iconst 0, 1) := by decide +kernel
theorem dX11_answerSame_56 : decode cX11_answerSame 56 = .ok (.ireturn, 1) := by decide +kernel
theorem dX11_answerObject_0 : decode cX11_answerObject 0 = .ok (.aload_n 0, 1) := by decide +kernel
theorem dX11_answerObject_1 : decode cX11_answerObject 1 = .ok (.getfield 50, 3) := by decide +kernel
theorem dX11_answerObject_4 : decode cX11_answerObject 4 = .ok (.invokevirtual 484, 3) := by decide +kernel
theorem dX11_answerObject_7 : decode cX11_answerObject 7 = .ok (.astore_n 3, 1) := by decide +kernel
theorem dX11_answerObject_8 : decode cX11_answerObject 8 = .ok (.aload_n 3, 1) := by decide +kernel
theorem dX11_answerObject_9 : decode cX11_answerObject 9 = .ok (.getstatic 492, 3) := by decide +kernel
theorem dX11_answerObject_12 : decode cX11_answerObject 12 = .ok (.aload_n 1, 1) := by decide +kernel
theorem dX11_answerObject_13 : decode cX11_answerObject 13 = .ok (.getfield 105, 3) := by decide +kernel
theorem dX11_answerObject_16 : decode cX11_answerObject 16 = .ok (.iaload, 1) := by decide +kernel
theorem dX11_answerObject_17 : decode cX11_answerObject 17 = .ok (.iload_n 2, 1) := by decide +kernel
theorem dX11_answerObject_18 : decode cX11_answerObject 18 = .ok (.aload_n 0, 1) := by decide +kernel
theorem dX11_answerObject_19 : decode cX11_answerObject 19 = .ok (.getfield 57, 3) := by decide +kernel
theorem dX11_answerObject_22 : decode cX11_answerObject 22 = .ok (.invokevirtual 442, 3) := by decide +kernel
theorem dX11_answerObject_25 : decode cX11_answerObject 25 = .ok (.aload_n 0, 1) := by decide +kernel
theorem dX11_answerObject_26 : decode cX11_answerObject 26 = .ok (.getfield 7, 3) := by decide +kernel
theorem dX11_answerObject_29 : decode cX11_answerObject 29 = .ok (.iconst 0, 1) := by decide +kernel
theorem dX11_answerObject_30 : decode cX11_answerObject 30 = .ok (.iaload, 1) := by decide +kernel
theorem dX11_answerObject_31 : decode cX11_answerObject 31 = .ok (.invokestatic 495, 3) := by decide +kernel
theorem dX11_answerObject_34 : decode cX11_answerObject 34 = .ok (.bipush 6, 2) := by decide +kernel
theorem dX11_answerObject_36 : decode cX11_answerObject 36 = .ok (.invokevirtual 499, 3) := by decide +kernel
theorem dX11_answerObject_39 : decode cX11_answerObject 39 = .ok (.aload_n 3, 1) := by decide +kernel
theorem dX11_answerObject_40 : decode cX11_answerObject 40 = .ok (.aload_n 1, 1) := by decide +kernel
theorem dX11_answerObject_41 : decode cX11_answerObject 41 = .ok (.aload_n 1, 1) := by decide +kernel
theorem dX11_answerObject_42 : decode cX11_answerObject 42 = .ok (.getfield 121, 3) := by decide +kernel
theorem dX11_answerObject_45 : decode cX11_answerObject 45 = .ok (.aload_n 0, 1) := by decide +kernel
theorem dX11_answerObject_46 : decode cX11_answerObject 46 = .ok (.getfield 131, 3) := by decide +kernel
theorem dX11_answerObject_49 : decode cX11_answerObject 49 = .ok (.invokevirtual 134, 3) := by decide +kernel
theorem dX11_answerObject_52 : decode cX11_answerObject 52 = .ok (.aload_n 1, 1) := by decide +kernel
theorem dX11_answerObject_53 : decode cX11_answerObject 53 = .ok (.invokevirtual 502, 3) := by decide +kernel
theorem dX11_answerObject_56 : decode cX11_answerObject 56 = .ok (.invokevirtual 499, 3) := by decide +kernel
theorem dX11_answerObject_59 : decode cX11_answerObject 59 = .ok (.return_, 1) := by decide +kernel
theorem dX11_objectHead_0 : decode cX11_objectHead 0 = .ok (.iload_n 0, 1) := by decide +kernel
theorem dX11_objectHead_1 : decode cX11_objectHead 1 = .ok (.sipush 256, 3) := by decide +kernel
theorem dX11_objectHead_4 : decode cX11_objectHead 4 = .ok (.ior, 1) := by decide +kernel
theorem dX11_objectHead_5 : decode cX11_objectHead 5 = .ok (.iload_n 1, 1) := by decide +kernel
theorem dX11_objectHead_6 : decode cX11_objectHead 6 = .ok (.bipush 16, 2) := by decide +kernel
theorem dX11_objectHead_8 : decode cX11_objectHead 8 = .ok (.ishl, 1) := by decide +kernel
theorem dX11_objectHead_9 : decode cX11_objectHead 9 = .ok (.ior, 1) := by decide +kernel
theorem dX11_objectHead_10 : decode cX11_objectHead 10 = .ok (.i2l, 1) := by decide +kernel
theorem dX11_objectHead_11 : decode cX11_objectHead 11 = .ok (.iload_n 2, 1) := by decide +kernel
theorem dX11_objectHead_12 : decode cX11_objectHead 12 = .ok (.i2l, 1) := by decide +kernel
theorem dX11_objectHead_13 : decode cX11_objectHead 13 = .ok (.bipush 24, 2) := by decide +kernel
theorem dX11_objectHead_15 : decode cX11_objectHead 15 = .ok (.lshl, 1) := by decide +kernel
theorem dX11_objectHead_16 : decode cX11_objectHead 16 = .ok (.lor, 1) := by decide +kernel
theorem dX11_objectHead_17 : decode cX11_objectHead 17 = .ok (.iload_n 3, 1) := by decide +kernel
theorem dX11_objectHead_18 : decode cX11_objectHead 18 = .ok (.i2l, 1) := by decide +kernel
theorem dX11_objectHead_19 : decode cX11_objectHead 19 = .ok (.bipush 32, 2) := by decide +kernel
theorem dX11_objectHead_21 : decode cX11_objectHead 21 = .ok (.lshl, 1) := by decide +kernel
theorem dX11_objectHead_22 : decode cX11_objectHead 22 = .ok (.lor, 1) := by decide +kernel
theorem dX11_objectHead_23 : decode cX11_objectHead 23 = .ok (.lreturn, 1) := by decide +kernel
theorem dX11_answerPoints_0 : decode cX11_answerPoints 0 = .ok (.aconst_null, 1) := by decide +kernel
theorem dX11_answerPoints_1 : decode cX11_answerPoints 1 = .ok (.astore_n 2, 1) := by decide +kernel
theorem dX11_answerPoints_2 : decode cX11_answerPoints 2 = .ok (.iconst (-1), 1) := by decide +kernel
theorem dX11_answerPoints_3 : decode cX11_answerPoints 3 = .ok (.istore_n 3, 1) := by decide +kernel
theorem dX11_answerPoints_4 : decode cX11_answerPoints 4 = .ok (.iconst 0, 1) := by decide +kernel
theorem dX11_answerPoints_5 : decode cX11_answerPoints 5 = .ok (.istore 4, 2) := by decide +kernel
theorem dX11_answerPoints_7 : decode cX11_answerPoints 7 = .ok (.iconst 0, 1) := by decide +kernel
theorem dX11_answerPoints_8 : decode cX11_answerPoints 8 = .ok (.istore 5, 2) := by decide +kernel
theorem dX11_answerPoints_10 : decode cX11_answerPoints 10 = .ok (.iload 5, 2) := by decide +kernel
theorem dX11_answerPoints_12 : decode cX11_answerPoints 12 = .ok (.aload_n 0, 1) := by decide +kernel
theorem dX11_answerPoints_13 : decode cX11_answerPoints 13 = .ok (.getfield 16, 3) := by decide +kernel
theorem dX11_answerPoints_16 : decode cX11_answerPoints 16 = .ok (.getfield 89, 3) := by decide +kernel
theorem dX11_answerPoints_19 : decode cX11_answerPoints 19 = .ok (.if_icmp .ge 151, 3) := by decide +kernel
theorem dX11_answerPoints_22 : decode cX11_answerPoints 22 = .ok (.aload_n 0, 1) := by decide +kernel
theorem dX11_answerPoints_23 : decode cX11_answerPoints 23 = .ok (.getfield 16, 3) := by decide +kernel
theorem dX11_answerPoints_26 : decode cX11_answerPoints 26 = .ok (.iload 5, 2) := by decide +kernel
theorem dX11_answerPoints_28 : decode cX11_answerPoints 28 = .ok (.invokevirtual 505, 3) := by decide +kernel
theorem dX11_answerPoints_31 : decode cX11_answerPoints 31 = .ok (.astore 6, 2) := by decide +kernel
theorem dX11_answerPoints_33 : decode cX11_answerPoints 33 = .ok (.aload 6, 2) := by decide +kernel
theorem dX11_answerPoints_35 : decode cX11_answerPoints 35 = .ok (.ifnull 129, 3) := by decide +kernel
theorem dX11_answerPoints_38 : decode cX11_answerPoints 38 = .ok (.aload 6, 2) := by decide +kernel
theorem dX11_answerPoints_40 : decode cX11_answerPoints 40 = .ok (.iload_n 1, 1) := by decide +kernel
theorem dX11_answerPoints_41 : decode cX11_answerPoints 41 = .ok (.invokevirtual 508, 3) := by decide +kernel
theorem dX11_answerPoints_44 : decode cX11_answerPoints 44 = .ok (.ifCond .ne 6, 3) := by decide +kernel
theorem dX11_answerPoints_47 : decode cX11_answerPoints 47 = .ok (.goto 117, 3) := by decide +kernel
theorem dX11_answerPoints_50 : decode cX11_answerPoints 50 = .ok (.aload_n 2, 1) := by decide +kernel
theorem dX11_answerPoints_51 : decode cX11_answerPoints 51 = .ok (.ifnull 19, 3) := by decide +kernel
theorem dX11_answerPoints_54 : decode cX11_answerPoints 54 = .ok (.aload 6, 2) := by decide +kernel
theorem dX11_answerPoints_56 : decode cX11_answerPoints 56 = .ok (.getfield 105, 3) := by decide +kernel
theorem dX11_answerPoints_59 : decode cX11_answerPoints 59 = .ok (.iload_n 3, 1) := by decide +kernel
theorem dX11_answerPoints_60 : decode cX11_answerPoints 60 = .ok (.if_icmp .ne 10, 3) := by decide +kernel
theorem dX11_answerPoints_63 : decode cX11_answerPoints 63 = .ok (.iload 4, 2) := by decide +kernel
theorem dX11_answerPoints_65 : decode cX11_answerPoints 65 = .ok (.bipush 6, 2) := by decide +kernel
theorem dX11_answerPoints_67 : decode cX11_answerPoints 67 = .ok (.if_icmp .lt 46, 3) := by decide +kernel
theorem dX11_answerPoints_70 : decode cX11_answerPoints 70 = .ok (.aload_n 0, 1) := by decide +kernel
theorem dX11_answerPoints_71 : decode cX11_answerPoints 71 = .ok (.getfield 50, 3) := by decide +kernel
theorem dX11_answerPoints_74 : decode cX11_answerPoints 74 = .ok (.invokevirtual 484, 3) := by decide +kernel
theorem dX11_answerPoints_77 : decode cX11_answerPoints 77 = .ok (.astore_n 2, 1) := by decide +kernel
theorem dX11_answerPoints_78 : decode cX11_answerPoints 78 = .ok (.aload_n 2, 1) := by decide +kernel
theorem dX11_answerPoints_79 : decode cX11_answerPoints 79 = .ok (.getstatic 492, 3) := by decide +kernel
theorem dX11_answerPoints_82 : decode cX11_answerPoints 82 = .ok (.aload 6, 2) := by decide +kernel
theorem dX11_answerPoints_84 : decode cX11_answerPoints 84 = .ok (.getfield 105, 3) := by decide +kernel
theorem dX11_answerPoints_87 : decode cX11_answerPoints 87 = .ok (.iaload, 1) := by decide +kernel
theorem dX11_answerPoints_88 : decode cX11_answerPoints 88 = .ok (.iload_n 1, 1) := by decide +kernel
theorem dX11_answerPoints_89 : decode cX11_answerPoints 89 = .ok (.iconst 0, 1) := by decide +kernel
theorem dX11_answerPoints_90 : decode cX11_answerPoints 90 = .ok (.aload_n 0, 1) := by decide +kernel
theorem dX11_answerPoints_91 : decode cX11_answerPoints 91 = .ok (.getfield 7, 3) := by decide +kernel
theorem dX11_answerPoints_94 : decode cX11_answerPoints 94 = .ok (.iconst 0, 1) := by decide +kernel
theorem dX11_answerPoints_95 : decode cX11_answerPoints 95 = .ok (.iaload, 1) := by decide +kernel
theorem dX11_answerPoints_96 : decode cX11_answerPoints 96 = .ok (.invokestatic 495, 3) := by decide +kernel
theorem dX11_answerPoints_99 : decode cX11_answerPoints 99 = .ok (.bipush 6, 2) := by decide +kernel
theorem dX11_answerPoints_101 : decode cX11_answerPoints 101 = .ok (.invokevirtual 499, 3) := by decide +kernel
theorem dX11_answerPoints_104 : decode cX11_answerPoints 104 = .ok (.aload 6, 2) := by decide +kernel
theorem dX11_answerPoints_106 : decode cX11_answerPoints 106 = .ok (.getfield 105, 3) := by decide +kernel
theorem dX11_answerPoints_109 : decode cX11_answerPoints 109 = .ok (.istore_n 3, 1) := by decide +kernel
theorem dX11_answerPoints_110 : decode cX11_answerPoints 110 = .ok (.iconst 0, 1) := by decide +kernel
theorem dX11_answerPoints_111 : decode cX11_answerPoints 111 = .ok (.istore 4, 2) := by decide +kernel
theorem dX11_answerPoints_113 : decode cX11_answerPoints 113 = .ok (.iload_n 3, 1) := by decide +kernel
theorem dX11_answerPoints_114 : decode cX11_answerPoints 114 = .ok (.bipush 6, 2) := by decide +kernel
theorem dX11_answerPoints_116 : decode cX11_answerPoints 116 = .ok (.if_icmp .ne 11, 3) := by decide +kernel
theorem dX11_answerPoints_119 : decode cX11_answerPoints 119 = .ok (.aload 6, 2) := by decide +kernel
theorem dX11_answerPoints_121 : decode cX11_answerPoints 121 = .ok (.getfield 208, 3) := by decide +kernel
theorem dX11_answerPoints_124 : decode cX11_answerPoints 124 = .ok (.goto 8, 3) := by decide +kernel
theorem dX11_answerPoints_127 : decode cX11_answerPoints 127 = .ok (.aload 6, 2) := by decide +kernel
theorem dX11_answerPoints_129 : decode cX11_answerPoints 129 = .ok (.getfield 121, 3) := by decide +kernel
theorem dX11_answerPoints_132 : decode cX11_answerPoints 132 = .ok (.istore 7, 2) := by decide +kernel
theorem dX11_answerPoints_134 : decode cX11_answerPoints 134 = .ok (.aload_n 2, 1) := by decide +kernel
theorem dX11_answerPoints_135 : decode cX11_answerPoints 135 = .ok (.aload 6, 2) := by decide +kernel
theorem dX11_answerPoints_137 : decode cX11_answerPoints 137 = .ok (.iload 7, 2) := by decide +kernel
theorem dX11_answerPoints_139 : decode cX11_answerPoints 139 = .ok (.aload_n 0, 1) := by decide +kernel
theorem dX11_answerPoints_140 : decode cX11_answerPoints 140 = .ok (.getfield 131, 3) := by decide +kernel
theorem dX11_answerPoints_143 : decode cX11_answerPoints 143 = .ok (.invokevirtual 134, 3) := by decide +kernel
theorem dX11_answerPoints_146 : decode cX11_answerPoints 146 = .ok (.aload 6, 2) := by decide +kernel
theorem dX11_answerPoints_148 : decode cX11_answerPoints 148 = .ok (.invokevirtual 502, 3) := by decide +kernel
theorem dX11_answerPoints_151 : decode cX11_answerPoints 151 = .ok (.invokevirtual 499, 3) := by decide +kernel
theorem dX11_answerPoints_154 : decode cX11_answerPoints 154 = .ok (.iinc 4 1, 3) := by decide +kernel
theorem dX11_answerPoints_157 : decode cX11_answerPoints 157 = .ok (.aload_n 2, 1) := by decide +kernel
theorem dX11_answerPoints_158 : decode cX11_answerPoints 158 = .ok (.iconst 1, 1) := by decide +kernel
theorem dX11_answerPoints_159 : decode cX11_answerPoints 159 = .ok (.iload 4, 2) := by decide +kernel
theorem dX11_answerPoints_161 : decode cX11_answerPoints 161 = .ok (.invokevirtual 489, 3) := by decide +kernel
theorem dX11_answerPoints_164 : decode cX11_answerPoints 164 = .ok (.iinc 5 1, 3) := by decide +kernel
theorem dX11_answerPoints_167 : decode cX11_answerPoints 167 = .ok (.goto (-157), 3) := by decide +kernel
theorem dX11_answerPoints_170 : decode cX11_answerPoints 170 = .ok (.return_, 1) := by decide +kernel
theorem dX12_init_0 : decode cX12_init 0 = .ok (.aload_n 0, 1) := by decide +kernel
theorem dX12_init_1 : decode cX12_init 1 = .ok (.invokespecial 1, 3) := by decide +kernel
theorem dX12_init_4 : decode cX12_init 4 = .ok (.aload_n 0, 1) := by decide +kernel
theorem dX12_init_5 : decode cX12_init 5 = .ok (.bipush 7, 2) := by decide +kernel
theorem dX12_init_7 : decode cX12_init 7 = .ok (.newarray .int, 2) := by decide +kernel
theorem dX12_init_9 : decode cX12_init 9 = .ok (.putfield 7, 3) := by decide +kernel
theorem dX12_init_12 : decode cX12_init 12 = .ok (.aload_n 0, 1) := by decide +kernel
theorem dX12_init_13 : decode cX12_init 13 = .ok (.bipush 24, 2) := by decide +kernel
theorem dX12_init_15 : decode cX12_init 15 = .ok (.newarray .int, 2) := by decide +kernel
theorem dX12_init_17 : decode cX12_init 17 = .ok (.putfield 13, 3) := by decide +kernel
theorem dX12_init_20 : decode cX12_init 20 = .ok (.aload_n 0, 1) := by decide +kernel
theorem dX12_init_21 : decode cX12_init 21 = .ok (.bipush 24, 2) := by decide +kernel
theorem dX12_init_23 : decode cX12_init 23 = .ok (.newarray .int, 2) := by decide +kernel
theorem dX12_init_25 : decode cX12_init 25 = .ok (.putfield 16, 3) := by decide +kernel
theorem dX12_init_28 : decode cX12_init 28 = .ok (.aload_n 0, 1) := by decide +kernel
theorem dX12_init_29 : decode cX12_init 29 = .ok (.bipush 24, 2) := by decide +kernel
theorem dX12_init_31 : decode cX12_init 31 = .ok (.newarray .int, 2) := by decide +kernel
theorem dX12_init_33 : decode cX12_init 33 = .ok (.putfield 19, 3) := by decide +kernel
theorem dX12_init_36 : decode cX12_init 36 = .ok (.aload_n 0, 1) := by decide +kernel
theorem dX12_init_37 : decode cX12_init 37 = .ok (.bipush 24, 2) := by decide +kernel
theorem dX12_init_39 : decode cX12_init 39 = .ok (.newarray .boolean, 2) := by decide +kernel
theorem dX12_init_41 : decode cX12_init 41 = .ok (.putfield 22, 3) := by decide +kernel
theorem dX12_init_44 : decode cX12_init 44 = .ok (.aload_n 0, 1) := by decide +kernel
theorem dX12_init_45 : decode cX12_init 45 = .ok (.bipush 24, 2) := by decide +kernel
theorem dX12_init_47 : decode cX12_init 47 = .ok (.newarray .int, 2) := by decide +kernel
theorem dX12_init_49 : decode cX12_init 49 = .ok (.putfield 26, 3) := by decide +kernel
theorem dX12_init_52 : decode cX12_init 52 = .ok (.aload_n 0, 1) := by decide +kernel
theorem dX12_init_53 : decode cX12_init 53 = .ok (.bipush 24, 2) := by decide +kernel
theorem dX12_init_55 : decode cX12_init 55 = .ok (.newarray .int, 2) := by decide +kernel
theorem dX12_init_57 : decode cX12_init 57 = .ok (.putfield 29, 3) := by decide +kernel
theorem dX12_init_60 : decode cX12_init 60 = .ok (.aload_n 0, 1) := by decide +kernel
theorem dX12_init_61 : decode cX12_init 61 = .ok (.bipush 24, 2) := by decide +kernel
theorem dX12_init_63 : decode cX12_init 63 = .ok (.newarray .int, 2) := by decide +kernel
theorem dX12_init_65 : decode cX12_init 65 = .ok (.putfield 32, 3) := by decide +kernel
theorem dX12_init_68 : decode cX12_init 68 = .ok (.aload_n 0, 1) := by decide +kernel
theorem dX12_init_69 : decode cX12_init 69 = .ok (.bipush 12, 2) := by decide +kernel
theorem dX12_init_71 : decode cX12_init 71 = .ok (.newarray .int, 2) := by decide +kernel
theorem dX12_init_73 : decode cX12_init 73 = .ok (.putfield 35, 3) := by decide +kernel
theorem dX12_init_76 : decode cX12_init 76 = .ok (.aload_n 0, 1) := by decide +kernel
theorem dX12_init_77 : decode cX12_init 77 = .ok (.bipush 12, 2) := by decide +kernel
theorem dX12_init_79 : decode cX12_init 79 = .ok (.newarray .int, 2) := by decide +kernel
theorem dX12_init_81 : decode cX12_init 81 = .ok (.putfield 38, 3) := by decide +kernel
theorem dX12_init_84 : decode cX12_init 84 = .ok (.aload_n 0, 1) := by decide +kernel
theorem dX12_init_85 : decode cX12_init 85 = .ok (.bipush 12, 2) := by decide +kernel
theorem dX12_init_87 : decode cX12_init 87 = .ok (.newarray .int, 2) := by decide +kernel
theorem dX12_init_89 : decode cX12_init 89 = .ok (.putfield 41, 3) := by decide +kernel
theorem dX12_init_92 : decode cX12_init 92 = .ok (.aload_n 0, 1) := by decide +kernel
theorem dX12_init_93 : decode cX12_init 93 = .ok (.bipush 12, 2) := by decide +kernel
theorem dX12_init_95 : decode cX12_init 95 = .ok (.newarray .boolean, 2) := by decide +kernel
theorem dX12_init_97 : decode cX12_init 97 = .ok (.putfield 44, 3) := by decide +kernel
theorem dX12_init_100 : decode cX12_init 100 = .ok (.aload_n 0, 1) := by decide +kernel
theorem dX12_init_101 : decode cX12_init 101 = .ok (.bipush 12, 2) := by decide +kernel
theorem dX12_init_103 : decode cX12_init 103 = .ok (.newarray .int, 2) := by decide +kernel
theorem dX12_init_105 : decode cX12_init 105 = .ok (.putfield 47, 3) := by decide +kernel
theorem dX12_init_108 : decode cX12_init 108 = .ok (.aload_n 0, 1) := by decide +kernel
theorem dX12_init_109 : decode cX12_init 109 = .ok (.iconst (-1), 1) := by decide +kernel
theorem dX12_init_110 : decode cX12_init 110 = .ok (.putfield 50, 3) := by decide +kernel
theorem dX12_init_113 : decode cX12_init 113 = .ok (.aload_n 0, 1) := by decide +kernel
theorem dX12_init_114 : decode cX12_init 114 = .ok (.iconst 3, 1) := by decide +kernel
theorem dX12_init_115 : decode cX12_init 115 = .ok (.newarray .int, 2) := by decide +kernel
theorem dX12_init_117 : decode cX12_init 117 = .ok (.putfield 54, 3) := by decide +kernel
theorem dX12_init_120 : decode cX12_init 120 = .ok (.aload_n 0, 1) := by decide +kernel
theorem dX12_init_121 : decode cX12_init 121 = .ok (.bipush 6, 2) := by decide +kernel
theorem dX12_init_123 : decode cX12_init 123 = .ok (.newarray .int, 2) := by decide +kernel
theorem dX12_init_125 : decode cX12_init 125 = .ok (.putfield 57, 3) := by decide +kernel
theorem dX12_init_128 : decode cX12_init 128 = .ok (.aload_n 0, 1) := by decide +kernel
theorem dX12_init_129 : decode cX12_init 129 = .ok (.bipush 60, 2) := by decide +kernel
theorem dX12_init_131 : decode cX12_init 131 = .ok (.newarray .int, 2) := by decide +kernel
theorem dX12_init_133 : decode cX12_init 133 = .ok (.putfield 60, 3) := by decide +kernel
theorem dX12_init_136 : decode cX12_init 136 = .ok (.aload_n 0, 1) := by decide +kernel
theorem dX12_init_137 : decode cX12_init 137 = .ok (.bipush 60, 2) := by decide +kernel
theorem dX12_init_139 : decode cX12_init 139 = .ok (.newarray .int, 2) := by decide +kernel
theorem dX12_init_141 : decode cX12_init 141 = .ok (.putfield 63, 3) := by decide +kernel
theorem dX12_init_144 : decode cX12_init 144 = .ok (.aload_n 0, 1) := by decide +kernel
theorem dX12_init_145 : decode cX12_init 145 = .ok (.bipush 60, 2) := by decide +kernel
theorem dX12_init_147 : decode cX12_init 147 = .ok (.newarray .int, 2) := by decide +kernel
theorem dX12_init_149 : decode cX12_init 149 = .ok (.putfield 66, 3) := by decide +kernel
theorem dX12_init_152 : decode cX12_init 152 = .ok (.aload_n 0, 1) := by decide +kernel
theorem dX12_init_153 : decode cX12_init 153 = .ok (.sipush 420, 3) := by decide +kernel
theorem dX12_init_156 : decode cX12_init 156 = .ok (.newarray .int, 2) := by decide +kernel
theorem dX12_init_158 : decode cX12_init 158 = .ok (.putfield 69, 3) := by decide +kernel
theorem dX12_init_161 : decode cX12_init 161 = .ok (.aload_n 0, 1) := by decide +kernel
theorem dX12_init_162 : decode cX12_init 162 = .ok (.bipush 12, 2) := by decide +kernel
theorem dX12_init_164 : decode cX12_init 164 = .ok (.newarray .int, 2) := by decide +kernel
theorem dX12_init_166 : decode cX12_init 166 = .ok (.putfield 72, 3) := by decide +kernel
theorem dX12_init_169 : decode cX12_init 169 = .ok (.aload_n 0, 1) := by decide +kernel
theorem dX12_init_170 : decode cX12_init 170 = .ok (.bipush 12, 2) := by decide +kernel
theorem dX12_init_172 : decode cX12_init 172 = .ok (.newarray .boolean, 2) := by decide +kernel
theorem dX12_init_174 : decode cX12_init 174 = .ok (.putfield 75, 3) := by decide +kernel
theorem dX12_init_177 : decode cX12_init 177 = .ok (.aload_n 0, 1) := by decide +kernel
theorem dX12_init_178 : decode cX12_init 178 = .ok (.bipush 12, 2) := by decide +kernel
theorem dX12_init_180 : decode cX12_init 180 = .ok (.newarray .int, 2) := by decide +kernel
theorem dX12_init_182 : decode cX12_init 182 = .ok (.putfield 78, 3) := by decide +kernel
theorem dX12_init_185 : decode cX12_init 185 = .ok (.aload_n 0, 1) := by decide +kernel
theorem dX12_init_186 : decode cX12_init 186 = .ok (.bipush 12, 2) := by decide +kernel
theorem dX12_init_188 : decode cX12_init 188 = .ok (.newarray .int, 2) := by decide +kernel
theorem dX12_init_190 : decode cX12_init 190 = .ok (.putfield 81, 3) := by decide +kernel
theorem dX12_init_193 : decode cX12_init 193 = .ok (.aload_n 0, 1) := by decide +kernel
theorem dX12_init_194 : decode cX12_init 194 = .ok (.bipush 12, 2) := by decide +kernel
theorem dX12_init_196 : decode cX12_init 196 = .ok (.newarray .int, 2) := by decide +kernel
theorem dX12_init_198 : decode cX12_init 198 = .ok (.putfield 84, 3) := by decide +kernel
theorem dX12_init_201 : decode cX12_init 201 = .ok (.aload_n 0, 1) := by decide +kernel
theorem dX12_init_202 : decode cX12_init 202 = .ok (.bipush 84, 2) := by decide +kernel
theorem dX12_init_204 : decode cX12_init 204 = .ok (.newarray .int, 2) := by decide +kernel
theorem dX12_init_206 : decode cX12_init 206 = .ok (.putfield 87, 3) := by decide +kernel
theorem dX12_init_209 : decode cX12_init 209 = .ok (.aload_n 0, 1) := by decide +kernel
theorem dX12_init_210 : decode cX12_init 210 = .ok (.bipush 60, 2) := by decide +kernel
theorem dX12_init_212 : decode cX12_init 212 = .ok (.newarray .int, 2) := by decide +kernel
theorem dX12_init_214 : decode cX12_init 214 = .ok (.putfield 90, 3) := by decide +kernel
theorem dX12_init_217 : decode cX12_init 217 = .ok (.aload_n 0, 1) := by decide +kernel
theorem dX12_init_218 : decode cX12_init 218 = .ok (.sipush 14940, 3) := by decide +kernel
theorem dX12_init_221 : decode cX12_init 221 = .ok (.newarray .int, 2) := by decide +kernel
theorem dX12_init_223 : decode cX12_init 223 = .ok (.putfield 93, 3) := by decide +kernel
theorem dX12_init_226 : decode cX12_init 226 = .ok (.aload_n 0, 1) := by decide +kernel
theorem dX12_init_227 : decode cX12_init 227 = .ok (.sipush 4096, 3) := by decide +kernel
theorem dX12_init_230 : decode cX12_init 230 = .ok (.newarray .int, 2) := by decide +kernel
theorem dX12_init_232 : decode cX12_init 232 = .ok (.putfield 96, 3) := by decide +kernel
theorem dX12_init_235 : decode cX12_init 235 = .ok (.aload_n 0, 1) := by decide +kernel
theorem dX12_init_236 : decode cX12_init 236 = .ok (.sipush 256, 3) := by decide +kernel
theorem dX12_init_239 : decode cX12_init 239 = .ok (.newarray .int, 2) := by decide +kernel
theorem dX12_init_241 : decode cX12_init 241 = .ok (.putfield 99, 3) := by decide +kernel
theorem dX12_init_244 : decode cX12_init 244 = .ok (.aload_n 0, 1) := by decide +kernel
theorem dX12_init_245 : decode cX12_init 245 = .ok (.sipush 260, 3) := by decide +kernel
theorem dX12_init_248 : decode cX12_init 248 = .ok (.newarray .int, 2) := by decide +kernel
theorem dX12_init_250 : decode cX12_init 250 = .ok (.putfield 102, 3) := by decide +kernel
theorem dX12_init_253 : decode cX12_init 253 = .ok (.aload_n 0, 1) := by decide +kernel
theorem dX12_init_254 : decode cX12_init 254 = .ok (.bipush 24, 2) := by decide +kernel
theorem dX12_init_256 : decode cX12_init 256 = .ok (.newarray .int, 2) := by decide +kernel
theorem dX12_init_258 : decode cX12_init 258 = .ok (.putfield 105, 3) := by decide +kernel
theorem dX12_init_261 : decode cX12_init 261 = .ok (.aload_n 0, 1) := by decide +kernel
theorem dX12_init_262 : decode cX12_init 262 = .ok (.getfield 7, 3) := by decide +kernel
theorem dX12_init_265 : decode cX12_init 265 = .ok (.iconst 0, 1) := by decide +kernel
theorem dX12_init_266 : decode cX12_init 266 = .ok (.iconst 1, 1) := by decide +kernel
theorem dX12_init_267 : decode cX12_init 267 = .ok (.iastore, 1) := by decide +kernel
theorem dX12_init_268 : decode cX12_init 268 = .ok (.aload_n 0, 1) := by decide +kernel
theorem dX12_init_269 : decode cX12_init 269 = .ok (.getfield 7, 3) := by decide +kernel
theorem dX12_init_272 : decode cX12_init 272 = .ok (.iconst 1, 1) := by decide +kernel
theorem dX12_init_273 : decode cX12_init 273 = .ok (.bipush 12, 2) := by decide +kernel
theorem dX12_init_275 : decode cX12_init 275 = .ok (.iastore, 1) := by decide +kernel
theorem dX12_init_276 : decode cX12_init 276 = .ok (.aload_n 0, 1) := by decide +kernel
theorem dX12_init_277 : decode cX12_init 277 = .ok (.getfield 7, 3) := by decide +kernel
theorem dX12_init_280 : decode cX12_init 280 = .ok (.iconst 2, 1) := by decide +kernel
theorem dX12_init_281 : decode cX12_init 281 = .ok (.bipush 8, 2) := by decide +kernel
theorem dX12_init_283 : decode cX12_init 283 = .ok (.iastore, 1) := by decide +kernel
theorem dX12_init_284 : decode cX12_init 284 = .ok (.aload_n 0, 1) := by decide +kernel
theorem dX12_init_285 : decode cX12_init 285 = .ok (.getfield 7, 3) := by decide +kernel
theorem dX12_init_288 : decode cX12_init 288 = .ok (.iconst 3, 1) := by decide +kernel
theorem dX12_init_289 : decode cX12_init 289 = .ok (.sipush 150, 3) := by decide +kernel
theorem dX12_init_292 : decode cX12_init 292 = .ok (.iastore, 1) := by decide +kernel
theorem dX12_init_293 : decode cX12_init 293 = .ok (.aload_n 0, 1) := by decide +kernel
theorem dX12_init_294 : decode cX12_init 294 = .ok (.getfield 7, 3) := by decide +kernel
theorem dX12_init_297 : decode cX12_init 297 = .ok (.iconst 4, 1) := by decide +kernel
theorem dX12_init_298 : decode cX12_init 298 = .ok (.bipush 100, 2) := by decide +kernel
theorem dX12_init_300 : decode cX12_init 300 = .ok (.iastore, 1) := by decide +kernel
theorem dX12_init_301 : decode cX12_init 301 = .ok (.aload_n 0, 1) := by decide +kernel
theorem dX12_init_302 : decode cX12_init 302 = .ok (.getfield 7, 3) := by decide +kernel
theorem dX12_init_305 : decode cX12_init 305 = .ok (.iconst 5, 1) := by decide +kernel
theorem dX12_init_306 : decode cX12_init 306 = .ok (.sipush 200, 3) := by decide +kernel
theorem dX12_init_309 : decode cX12_init 309 = .ok (.iastore, 1) := by decide +kernel
theorem dX12_init_310 : decode cX12_init 310 = .ok (.aload_n 0, 1) := by decide +kernel
theorem dX12_init_311 : decode cX12_init 311 = .ok (.getfield 7, 3) := by decide +kernel
theorem dX12_init_314 : decode cX12_init 314 = .ok (.bipush 6, 2) := by decide +kernel
theorem dX12_init_316 : decode cX12_init 316 = .ok (.sipush 300, 3) := by decide +kernel
theorem dX12_init_319 : decode cX12_init 319 = .ok (.iastore, 1) := by decide +kernel
theorem dX12_init_320 : decode cX12_init 320 = .ok (.aload_n 0, 1) := by decide +kernel
theorem dX12_init_321 : decode cX12_init 321 = .ok (.getfield 57, 3) := by decide +kernel
theorem dX12_init_324 : decode cX12_init 324 = .ok (.iconst 3, 1) := by decide +kernel
theorem dX12_init_325 : decode cX12_init 325 = .ok (.iconst 1, 1) := by decide +kernel
theorem dX12_init_326 : decode cX12_init 326 = .ok (.iastore, 1) := by decide +kernel
theorem dX12_init_327 : decode cX12_init 327 = .ok (.aload_n 0, 1) := by decide +kernel
theorem dX12_init_328 : decode cX12_init 328 = .ok (.getfield 57, 3) := by decide +kernel
theorem dX12_init_331 : decode cX12_init 331 = .ok (.iconst 4, 1) := by decide +kernel
theorem dX12_init_332 : decode cX12_init 332 = .ok (.iconst 1, 1) := by decide +kernel
theorem dX12_init_333 : decode cX12_init 333 = .ok (.iastore, 1) := by decide +kernel
theorem dX12_init_334 : decode cX12_init 334 = .ok (.return_, 1) := by decide +kernel
theorem dX12_in_0 : decode cX12_in 0 = .ok (.lload_n 0, 1) := by decide +kernel
theorem dX12_in_1 : decode cX12_in 1 = .ok (.lload_n 2, 1) := by decide +kernel
theorem dX12_in_2 : decode cX12_in 2 = .ok (.lcmp, 1) := by decide +kernel
theorem dX12_in_3 : decode cX12_in 3 = .ok (.ifCond .lt 14, 3) := by decide +kernel
theorem dX12_in_6 : decode cX12_in 6 = .ok (.lload_n 0, 1) := by decide +kernel
theorem dX12_in_7 : decode cX12_in 7 = .ok (.lload 4, 2) := by decide +kernel
theorem dX12_in_9 : decode cX12_in 9 = .ok (.lcmp, 1) := by decide +kernel
theorem dX12_in_10 : decode cX12_in 10 = .ok (.ifCond .gt 7, 3) := by decide +kernel
theorem dX12_in_13 : decode cX12_in 13 = .ok (.iconst 1, 1) := by decide +kernel
theorem dX12_in_14 : decode cX12_in 14 = .ok (.goto 4, 3) := by decide +kernel
theorem dX12_in_17 : decode cX12_in 17 = .ok (.iconst 0, 1) := by decide +kernel
theorem dX12_in_18 : decode cX12_in 18 = .ok (.ireturn, 1) := by decide +kernel
theorem dX12_isPoint_0 : decode cX12_isPoint 0 = .ok (.iload_n 1, 1) := by decide +kernel
theorem dX12_isPoint_1 : decode cX12_isPoint 1 = .ok (.i2l, 1) := by decide +kernel
theorem dX12_isPoint_2 : decode cX12_isPoint 2 = .ok (.lconst 0, 1) := by decide +kernel
theorem dX12_isPoint_3 : decode cX12_isPoint 3 = .ok (.aload_n 0, 1) := by decide +kernel
theorem dX12_isPoint_4 : decode cX12_isPoint 4 = .ok (.getfield 108, 3) := by decide +kernel
theorem dX12_isPoint_7 : decode cX12_isPoint 7 = .ok (.iconst 1, 1) := by decide +kernel
theorem dX12_isPoint_8 : decode cX12_isPoint 8 = .ok (.isub, 1) := by decide +kernel
theorem dX12_isPoint_9 : decode cX12_isPoint 9 = .ok (.i2l, 1) := by decide +kernel
theorem dX12_isPoint_10 : decode cX12_isPoint 10 = .ok (.invokestatic 111, 3) := by decide +kernel
theorem dX12_isPoint_13 : decode cX12_isPoint 13 = .ok (.ireturn, 1) := by decide +kernel
theorem dX12_set_0 : decode cX12_set 0 = .ok (.iload_n 1, 1) := by decide +kernel
theorem dX12_set_1 : decode cX12_set 1 = .ok (.ifCond .ne 15, 3) := by decide +kernel
theorem dX12_set_4 : decode cX12_set 4 = .ok (.iload_n 2, 1) := by decide +kernel
theorem dX12_set_5 : decode cX12_set 5 = .ok (.i2l, 1) := by decide +kernel
theorem dX12_set_6 : decode cX12_set 6 = .ok (.lconst 0, 1) := by decide +kernel
theorem dX12_set_7 : decode cX12_set 7 = .ok (.ldc2_w 115, 3) := by decide +kernel
theorem dX12_set_10 : decode cX12_set 10 = .ok (.invokestatic 111, 3) := by decide +kernel
theorem dX12_set_13 : decode cX12_set 13 = .ok (.goto 56, 3) := by decide +kernel
theorem dX12_set_16 : decode cX12_set 16 = .ok (.iload_n 1, 1) := by decide +kernel
theorem dX12_set_17 : decode cX12_set 17 = .ok (.iconst 1, 1) := by decide +kernel
theorem dX12_set_18 : decode cX12_set 18 = .ok (.if_icmp .eq 8, 3) := by decide +kernel
theorem dX12_set_21 : decode cX12_set 21 = .ok (.iload_n 1, 1) := by decide +kernel
theorem dX12_set_22 : decode cX12_set 22 = .ok (.iconst 2, 1) := by decide +kernel
theorem dX12_set_23 : decode cX12_set 23 = .ok (.if_icmp .ne 15, 3) := by decide +kernel
theorem dX12_set_26 : decode cX12_set 26 = .ok (.iload_n 2, 1) := by decide +kernel
theorem dX12_set_27 : decode cX12_set 27 = .ok (.i2l, 1) := by decide +kernel
theorem dX12_set_28 : decode cX12_set 28 = .ok (.lconst 1, 1) := by decide +kernel
theorem dX12_set_29 : decode cX12_set 29 = .ok (.ldc2_w 117, 3) := by decide +kernel
theorem dX12_set_32 : decode cX12_set 32 = .ok (.invokestatic 111, 3) := by decide +kernel
theorem dX12_set_35 : decode cX12_set 35 = .ok (.goto 34, 3) := by decide +kernel
theorem dX12_set_38 : decode cX12_set 38 = .ok (.iload_n 1, 1) := by decide +kernel
theorem dX12_set_39 : decode cX12_set 39 = .ok (.i2l, 1) := by decide +kernel
theorem dX12_set_40 : decode cX12_set 40 = .ok (.ldc2_w 119, 3) := by decide +kernel
theorem dX12_set_43 : decode cX12_set 43 = .ok (.ldc2_w 121, 3) := by decide +kernel
theorem dX12_set_46 : decode cX12_set 46 = .ok (.invokestatic 111, 3) := by decide +kernel
theorem dX12_set_49 : decode cX12_set 49 = .ok (.ifCond .eq 19, 3) := by decide +kernel
theorem dX12_set_52 : decode cX12_set 52 = .ok (.iload_n 2, 1) := by decide +kernel
theorem dX12_set_53 : decode cX12_set 53 = .ok (.i2l, 1) := by decide +kernel
theorem dX12_set_54 : decode cX12_set 54 = .ok (.lconst 1, 1) := by decide +kernel
theorem dX12_set_55 : decode cX12_set 55 = .ok (.ldc2_w 123, 3) := by decide +kernel
theorem dX12_set_58 : decode cX12_set 58 = .ok (.invokestatic 111, 3) := by decide +kernel
theorem dX12_set_61 : decode cX12_set 61 = .ok (.ifCond .eq 7, 3) := by decide +kernel
theorem dX12_set_64 : decode cX12_set 64 = .ok (.iconst 1, 1) := by decide +kernel
theorem dX12_set_65 : decode cX12_set 65 = .ok (.goto 4, 3) := by decide +kernel
theorem dX12_set_68 : decode cX12_set 68 = .ok (.iconst 0, 1) := by decide +kernel
theorem dX12_set_69 : decode cX12_set 69 = .ok (.istore_n 3, 1) := by decide +kernel
theorem dX12_set_70 : decode cX12_set 70 = .ok (.iload_n 3, 1) := by decide +kernel
theorem dX12_set_71 : decode cX12_set 71 = .ok (.ifCond .ne 5, 3) := by decide +kernel
theorem dX12_set_74 : decode cX12_set 74 = .ok (.iconst (-1), 1) := by decide +kernel
theorem dX12_set_75 : decode cX12_set 75 = .ok (.ireturn, 1) := by decide +kernel
theorem dX12_set_76 : decode cX12_set 76 = .ok (.aload_n 0, 1) := by decide +kernel
theorem dX12_set_77 : decode cX12_set 77 = .ok (.getfield 125, 3) := by decide +kernel
theorem dX12_set_80 : decode cX12_set 80 = .ok (.ifCond .eq 6, 3) := by decide +kernel
theorem dX12_set_83 : decode cX12_set 83 = .ok (.bipush (-2), 2) := by decide +kernel
theorem dX12_set_85 : decode cX12_set 85 = .ok (.ireturn, 1) := by decide +kernel
theorem dX12_set_86 : decode cX12_set 86 = .ok (.aload_n 0, 1) := by decide +kernel
theorem dX12_set_87 : decode cX12_set 87 = .ok (.getfield 7, 3) := by decide +kernel
theorem dX12_set_90 : decode cX12_set 90 = .ok (.iload_n 1, 1) := by decide +kernel
theorem dX12_set_91 : decode cX12_set 91 = .ok (.iaload, 1) := by decide +kernel
theorem dX12_set_92 : decode cX12_set 92 = .ok (.istore 4, 2) := by decide +kernel
theorem dX12_set_94 : decode cX12_set 94 = .ok (.aload_n 0, 1) := by decide +kernel
theorem dX12_set_95 : decode cX12_set 95 = .ok (.getfield 7, 3) := by decide +kernel
theorem dX12_set_98 : decode cX12_set 98 = .ok (.iload_n 1, 1) := by decide +kernel
theorem dX12_set_99 : decode cX12_set 99 = .ok (.iload_n 2, 1) := by decide +kernel
theorem dX12_set_100 : decode cX12_set 100 = .ok (.iastore, 1) := by decide +kernel
theorem dX12_set_101 : decode cX12_set 101 = .ok (.iload 4, 2) := by decide +kernel
theorem dX12_set_103 : decode cX12_set 103 = .ok (.ireturn, 1) := by decide +kernel
theorem dX12_isFree_0 : decode cX12_isFree 0 = .ok (.iload_n 1, 1) := by decide +kernel
theorem dX12_isFree_1 : decode cX12_isFree 1 = .ok (.i2l, 1) := by decide +kernel
theorem dX12_isFree_2 : decode cX12_isFree 2 = .ok (.lconst 1, 1) := by decide +kernel
theorem dX12_isFree_3 : decode cX12_isFree 3 = .ok (.ldc2_w 128, 3) := by decide +kernel
theorem dX12_isFree_6 : decode cX12_isFree 6 = .ok (.invokestatic 111, 3) := by decide +kernel
theorem dX12_isFree_9 : decode cX12_isFree 9 = .ok (.istore_n 2, 1) := by decide +kernel
theorem dX12_isFree_10 : decode cX12_isFree 10 = .ok (.iconst 0, 1) := by decide +kernel
theorem dX12_isFree_11 : decode cX12_isFree 11 = .ok (.istore_n 3, 1) := by decide +kernel
theorem dX12_isFree_12 : decode cX12_isFree 12 = .ok (.iload_n 3, 1) := by decide +kernel
theorem dX12_isFree_13 : decode cX12_isFree 13 = .ok (.aload_n 0, 1) := by decide +kernel
theorem dX12_isFree_14 : decode cX12_isFree 14 = .ok (.getfield 108, 3) := by decide +kernel
theorem dX12_isFree_17 : decode cX12_isFree 17 = .ok (.if_icmp .ge 29, 3) := by decide +kernel
theorem dX12_isFree_20 : decode cX12_isFree 20 = .ok (.iload_n 2, 1) := by decide +kernel
theorem dX12_isFree_21 : decode cX12_isFree 21 = .ok (.ifCond .eq 17, 3) := by decide +kernel
theorem dX12_isFree_24 : decode cX12_isFree 24 = .ok (.aload_n 0, 1) := by decide +kernel
theorem dX12_isFree_25 : decode cX12_isFree 25 = .ok (.getfield 16, 3) := by decide +kernel
theorem dX12_isFree_28 : decode cX12_isFree 28 = .ok (.iload_n 3, 1) := by decide +kernel
theorem dX12_isFree_29 : decode cX12_isFree 29 = .ok (.iaload, 1) := by decide +kernel
theorem dX12_isFree_30 : decode cX12_isFree 30 = .ok (.iload_n 1, 1) := by decide +kernel
theorem dX12_isFree_31 : decode cX12_isFree 31 = .ok (.if_icmp .eq 7, 3) := by decide +kernel
theorem dX12_isFree_34 : decode cX12_isFree 34 = .ok (.iconst 1, 1) := by decide +kernel
theorem dX12_isFree_35 : decode cX12_isFree 35 = .ok (.goto 4, 3) := by decide +kernel
theorem dX12_isFree_38 : decode cX12_isFree 38 = .ok (.iconst 0, 1) := by decide +kernel
theorem dX12_isFree_39 : decode cX12_isFree 39 = .ok (.istore_n 2, 1) := by decide +kernel
theorem dX12_isFree_40 : decode cX12_isFree 40 = .ok (.iinc 3 1, 3) := by decide +kernel
theorem dX12_isFree_43 : decode cX12_isFree 43 = .ok (.goto (-31), 3) := by decide +kernel
theorem dX12_isFree_46 : decode cX12_isFree 46 = .ok (.iconst 0, 1) := by decide +kernel
theorem dX12_isFree_47 : decode cX12_isFree 47 = .ok (.istore_n 3, 1) := by decide +kernel
theorem dX12_isFree_48 : decode cX12_isFree 48 = .ok (.iload_n 3, 1) := by decide +kernel
theorem dX12_isFree_49 : decode cX12_isFree 49 = .ok (.aload_n 0, 1) := by decide +kernel
theorem dX12_isFree_50 : decode cX12_isFree 50 = .ok (.getfield 130, 3) := by decide +kernel
theorem dX12_isFree_53 : decode cX12_isFree 53 = .ok (.if_icmp .ge 29, 3) := by decide +kernel
theorem dX12_isFree_56 : decode cX12_isFree 56 = .ok (.iload_n 2, 1) := by decide +kernel
theorem dX12_isFree_57 : decode cX12_isFree 57 = .ok (.ifCond .eq 17, 3) := by decide +kernel
theorem dX12_isFree_60 : decode cX12_isFree 60 = .ok (.aload_n 0, 1) := by decide +kernel
theorem dX12_isFree_61 : decode cX12_isFree 61 = .ok (.getfield 38, 3) := by decide +kernel
theorem dX12_isFree_64 : decode cX12_isFree 64 = .ok (.iload_n 3, 1) := by decide +kernel
theorem dX12_isFree_65 : decode cX12_isFree 65 = .ok (.iaload, 1) := by decide +kernel
theorem dX12_isFree_66 : decode cX12_isFree 66 = .ok (.iload_n 1, 1) := by decide +kernel
theorem dX12_isFree_67 : decode cX12_isFree 67 = .ok (.if_icmp .eq 7, 3) := by decide +kernel
theorem dX12_isFree_70 : decode cX12_isFree 70 = .ok (.iconst 1, 1) := by decide +kernel
theorem dX12_isFree_71 : decode cX12_isFree 71 = .ok (.goto 4, 3) := by decide +kernel
theorem dX12_isFree_74 : decode cX12_isFree 74 = .ok (.iconst 0, 1) := by decide +kernel
theorem dX12_isFree_75 : decode cX12_isFree 75 = .ok (.istore_n 2, 1) := by decide +kernel
theorem dX12_isFree_76 : decode cX12_isFree 76 = .ok (.iinc 3 1, 3) := by decide +kernel
theorem dX12_isFree_79 : decode cX12_isFree 79 = .ok (.goto (-31), 3) := by decide +kernel
theorem dX12_isFree_82 : decode cX12_isFree 82 = .ok (.iload_n 2, 1) := by decide +kernel
theorem dX12_isFree_83 : decode cX12_isFree 83 = .ok (.ireturn, 1) := by decide +kernel
theorem dX12_point_0 : decode cX12_point 0 = .ok (.iload_n 1, 1) := by decide +kernel
theorem dX12_point_1 : decode cX12_point 1 = .ok (.i2l, 1) := by decide +kernel
theorem dX12_point_2 : decode cX12_point 2 = .ok (.lconst 0, 1) := by decide +kernel
theorem dX12_point_3 : decode cX12_point 3 = .ok (.ldc2_w 121, 3) := by decide +kernel
theorem dX12_point_6 : decode cX12_point 6 = .ok (.invokestatic 111, 3) := by decide +kernel
theorem dX12_point_9 : decode cX12_point 9 = .ok (.ifCond .eq 23, 3) := by decide +kernel
theorem dX12_point_12 : decode cX12_point 12 = .ok (.iload_n 3, 1) := by decide +kernel
theorem dX12_point_13 : decode cX12_point 13 = .ok (.i2l, 1) := by decide +kernel
theorem dX12_point_14 : decode cX12_point 14 = .ok (.lconst 0, 1) := by decide +kernel
theorem dX12_point_15 : decode cX12_point 15 = .ok (.ldc2_w 133, 3) := by decide +kernel
theorem dX12_point_18 : decode cX12_point 18 = .ok (.invokestatic 111, 3) := by decide +kernel
theorem dX12_point_21 : decode cX12_point 21 = .ok (.ifCond .eq 11, 3) := by decide +kernel
theorem dX12_point_24 : decode cX12_point 24 = .ok (.aload_n 0, 1) := by decide +kernel
theorem dX12_point_25 : decode cX12_point 25 = .ok (.iload_n 2, 1) := by decide +kernel
theorem dX12_point_26 : decode cX12_point 26 = .ok (.invokevirtual 135, 3) := by decide +kernel
theorem dX12_point_29 : decode cX12_point 29 = .ok (.ifCond .ne 5, 3) := by decide +kernel
theorem dX12_point_32 : decode cX12_point 32 = .ok (.iconst (-1), 1) := by decide +kernel
theorem dX12_point_33 : decode cX12_point 33 = .ok (.ireturn, 1) := by decide +kernel
theorem dX12_point_34 : decode cX12_point 34 = .ok (.aload_n 0, 1) := by decide +kernel
theorem dX12_point_35 : decode cX12_point 35 = .ok (.getfield 108, 3) := by decide +kernel
theorem dX12_point_38 : decode cX12_point 38 = .ok (.bipush 24, 2) := by decide +kernel
theorem dX12_point_40 : decode cX12_point 40 = .ok (.if_icmp .ne 6, 3) := by decide +kernel
theorem dX12_point_43 : decode cX12_point 43 = .ok (.bipush (-3), 2) := by decide +kernel
theorem dX12_point_45 : decode cX12_point 45 = .ok (.ireturn, 1) := by decide +kernel
theorem dX12_point_46 : decode cX12_point 46 = .ok (.aload_n 0, 1) := by decide +kernel
theorem dX12_point_47 : decode cX12_point 47 = .ok (.getfield 13, 3) := by decide +kernel
theorem dX12_point_50 : decode cX12_point 50 = .ok (.aload_n 0, 1) := by decide +kernel
theorem dX12_point_51 : decode cX12_point 51 = .ok (.getfield 108, 3) := by decide +kernel
theorem dX12_point_54 : decode cX12_point 54 = .ok (.iload_n 1, 1) := by decide +kernel
theorem dX12_point_55 : decode cX12_point 55 = .ok (.iastore, 1) := by decide +kernel
theorem dX12_point_56 : decode cX12_point 56 = .ok (.aload_n 0, 1) := by decide +kernel
theorem dX12_point_57 : decode cX12_point 57 = .ok (.getfield 16, 3) := by decide +kernel
theorem dX12_point_60 : decode cX12_point 60 = .ok (.aload_n 0, 1) := by decide +kernel
theorem dX12_point_61 : decode cX12_point 61 = .ok (.getfield 108, 3) := by decide +kernel
theorem dX12_point_64 : decode cX12_point 64 = .ok (.iload_n 2, 1) := by decide +kernel
theorem dX12_point_65 : decode cX12_point 65 = .ok (.iastore, 1) := by decide +kernel
theorem dX12_point_66 : decode cX12_point 66 = .ok (.aload_n 0, 1) := by decide +kernel
theorem dX12_point_67 : decode cX12_point 67 = .ok (.getfield 19, 3) := by decide +kernel
theorem dX12_point_70 : decode cX12_point 70 = .ok (.aload_n 0, 1) := by decide +kernel
theorem dX12_point_71 : decode cX12_point 71 = .ok (.getfield 108, 3) := by decide +kernel
theorem dX12_point_74 : decode cX12_point 74 = .ok (.iload_n 3, 1) := by decide +kernel
theorem dX12_point_75 : decode cX12_point 75 = .ok (.iastore, 1) := by decide +kernel
theorem dX12_point_76 : decode cX12_point 76 = .ok (.aload_n 0, 1) := by decide +kernel
theorem dX12_point_77 : decode cX12_point 77 = .ok (.getfield 22, 3) := by decide +kernel
theorem dX12_point_80 : decode cX12_point 80 = .ok (.aload_n 0, 1) := by decide +kernel
theorem dX12_point_81 : decode cX12_point 81 = .ok (.getfield 108, 3) := by decide +kernel
theorem dX12_point_84 : decode cX12_point 84 = .ok (.iload 4, 2) := by decide +kernel
theorem dX12_point_86 : decode cX12_point 86 = .ok (.bastore, 1) := by decide +kernel
theorem dX12_point_87 : decode cX12_point 87 = .ok (.aload_n 0, 1) := by decide +kernel
theorem dX12_point_88 : decode cX12_point 88 = .ok (.dup, 1) := by decide +kernel
theorem dX12_point_89 : decode cX12_point 89 = .ok (.getfield 108, 3) := by decide +kernel
theorem dX12_point_92 : decode cX12_point 92 = .ok (.iconst 1, 1) := by decide +kernel
theorem dX12_point_93 : decode cX12_point 93 = .ok (.iadd, 1) := by decide +kernel
theorem dX12_point_94 : decode cX12_point 94 = .ok (.putfield 108, 3) := by decide +kernel
theorem dX12_point_97 : decode cX12_point 97 = .ok (.aload_n 0, 1) := by decide +kernel
theorem dX12_point_98 : decode cX12_point 98 = .ok (.getfield 108, 3) := by decide +kernel
theorem dX12_point_101 : decode cX12_point 101 = .ok (.iconst 1, 1) := by decide +kernel
theorem dX12_point_102 : decode cX12_point 102 = .ok (.isub, 1) := by decide +kernel
theorem dX12_point_103 : decode cX12_point 103 = .ok (.ireturn, 1) := by decide +kernel
theorem dX12_command_0 : decode cX12_command 0 = .ok (.iload_n 1, 1) := by decide +kernel
theorem dX12_command_1 : decode cX12_command 1 = .ok (.i2l, 1) := by decide +kernel
theorem dX12_command_2 : decode cX12_command 2 = .ok (.lconst 0, 1) := by decide +kernel
theorem dX12_command_3 : decode cX12_command 3 = .ok (.ldc2_w 139, 3) := by decide +kernel
theorem dX12_command_6 : decode cX12_command 6 = .ok (.invokestatic 111, 3) := by decide +kernel
theorem dX12_command_9 : decode cX12_command 9 = .ok (.ifCond .eq 24, 3) := by decide +kernel
theorem dX12_command_12 : decode cX12_command 12 = .ok (.aload_n 0, 1) := by decide +kernel
theorem dX12_command_13 : decode cX12_command 13 = .ok (.iload_n 2, 1) := by decide +kernel
theorem dX12_command_14 : decode cX12_command 14 = .ok (.invokevirtual 135, 3) := by decide +kernel
theorem dX12_command_17 : decode cX12_command 17 = .ok (.ifCond .eq 16, 3) := by decide +kernel
theorem dX12_command_20 : decode cX12_command 20 = .ok (.iload_n 3, 1) := by decide +kernel
theorem dX12_command_21 : decode cX12_command 21 = .ok (.iconst (-1), 1) := by decide +kernel
theorem dX12_command_22 : decode cX12_command 22 = .ok (.if_icmp .eq 13, 3) := by decide +kernel
theorem dX12_command_25 : decode cX12_command 25 = .ok (.aload_n 0, 1) := by decide +kernel
theorem dX12_command_26 : decode cX12_command 26 = .ok (.iload_n 3, 1) := by decide +kernel
theorem dX12_command_27 : decode cX12_command 27 = .ok (.invokevirtual 141, 3) := by decide +kernel
theorem dX12_command_30 : decode cX12_command 30 = .ok (.ifCond .ne 5, 3) := by decide +kernel
theorem dX12_command_33 : decode cX12_command 33 = .ok (.iconst (-1), 1) := by decide +kernel
theorem dX12_command_34 : decode cX12_command 34 = .ok (.ireturn, 1) := by decide +kernel
theorem dX12_command_35 : decode cX12_command 35 = .ok (.iload_n 3, 1) := by decide +kernel
theorem dX12_command_36 : decode cX12_command 36 = .ok (.iconst (-1), 1) := by decide +kernel
theorem dX12_command_37 : decode cX12_command 37 = .ok (.if_icmp .eq 32, 3) := by decide +kernel
theorem dX12_command_40 : decode cX12_command 40 = .ok (.aload_n 0, 1) := by decide +kernel
theorem dX12_command_41 : decode cX12_command 41 = .ok (.getfield 13, 3) := by decide +kernel
theorem dX12_command_44 : decode cX12_command 44 = .ok (.iload_n 3, 1) := by decide +kernel
theorem dX12_command_45 : decode cX12_command 45 = .ok (.iaload, 1) := by decide +kernel
theorem dX12_command_46 : decode cX12_command 46 = .ok (.iload_n 1, 1) := by decide +kernel
theorem dX12_command_47 : decode cX12_command 47 = .ok (.ifCond .ne 7, 3) := by decide +kernel
theorem dX12_command_50 : decode cX12_command 50 = .ok (.iconst 0, 1) := by decide +kernel
theorem dX12_command_51 : decode cX12_command 51 = .ok (.goto 13, 3) := by decide +kernel
theorem dX12_command_54 : decode cX12_command 54 = .ok (.iload_n 1, 1) := by decide +kernel
theorem dX12_command_55 : decode cX12_command 55 = .ok (.iconst 1, 1) := by decide +kernel
theorem dX12_command_56 : decode cX12_command 56 = .ok (.if_icmp .ne 7, 3) := by decide +kernel
theorem dX12_command_59 : decode cX12_command 59 = .ok (.iconst 1, 1) := by decide +kernel
theorem dX12_command_60 : decode cX12_command 60 = .ok (.goto 4, 3) := by decide +kernel
theorem dX12_command_63 : decode cX12_command 63 = .ok (.iconst 4, 1) := by decide +kernel
theorem dX12_command_64 : decode cX12_command 64 = .ok (.if_icmp .eq 5, 3) := by decide +kernel
theorem dX12_command_67 : decode cX12_command 67 = .ok (.iconst (-1), 1) := by decide +kernel
theorem dX12_command_68 : decode cX12_command 68 = .ok (.ireturn, 1) := by decide +kernel
theorem dX12_command_69 : decode cX12_command 69 = .ok (.aload_n 0, 1) := by decide +kernel
theorem dX12_command_70 : decode cX12_command 70 = .ok (.getfield 130, 3) := by decide +kernel
theorem dX12_command_73 : decode cX12_command 73 = .ok (.bipush 12, 2) := by decide +kernel
theorem dX12_command_75 : decode cX12_command 75 = .ok (.if_icmp .ne 6, 3) := by decide +kernel
theorem dX12_command_78 : decode cX12_command 78 = .ok (.bipush (-3), 2) := by decide +kernel
theorem dX12_command_80 : decode cX12_command 80 = .ok (.ireturn, 1) := by decide +kernel
theorem dX12_command_81 : decode cX12_command 81 = .ok (.aload_n 0, 1) := by decide +kernel
theorem dX12_command_82 : decode cX12_command 82 = .ok (.getfield 35, 3) := by decide +kernel
theorem dX12_command_85 : decode cX12_command 85 = .ok (.aload_n 0, 1) := by decide +kernel
theorem dX12_command_86 : decode cX12_command 86 = .ok (.getfield 130, 3) := by decide +kernel
theorem dX12_command_89 : decode cX12_command 89 = .ok (.iload_n 1, 1) := by decide +kernel
theorem dX12_command_90 : decode cX12_command 90 = .ok (.iastore, 1) := by decide +kernel
theorem dX12_command_91 : decode cX12_command 91 = .ok (.aload_n 0, 1) := by decide +kernel
theorem dX12_command_92 : decode cX12_command 92 = .ok (.getfield 38, 3) := by decide +kernel
theorem dX12_command_95 : decode cX12_command 95 = .ok (.aload_n 0, 1) := by decide +kernel
theorem dX12_command_96 : decode cX12_command 96 = .ok (.getfield 130, 3) := by decide +kernel
theorem dX12_command_99 : decode cX12_command 99 = .ok (.iload_n 2, 1) := by decide +kernel
theorem dX12_command_100 : decode cX12_command 100 = .ok (.iastore, 1) := by decide +kernel
theorem dX12_command_101 : decode cX12_command 101 = .ok (.aload_n 0, 1) := by decide +kernel
theorem dX12_command_102 : decode cX12_command 102 = .ok (.getfield 41, 3) := by decide +kernel
theorem dX12_command_105 : decode cX12_command 105 = .ok (.aload_n 0, 1) := by decide +kernel
theorem dX12_command_106 : decode cX12_command 106 = .ok (.getfield 130, 3) := by decide +kernel
theorem dX12_command_109 : decode cX12_command 109 = .ok (.iload_n 3, 1) := by decide +kernel
theorem dX12_command_110 : decode cX12_command 110 = .ok (.iastore, 1) := by decide +kernel
theorem dX12_command_111 : decode cX12_command 111 = .ok (.aload_n 0, 1) := by decide +kernel
theorem dX12_command_112 : decode cX12_command 112 = .ok (.getfield 44, 3) := by decide +kernel
theorem dX12_command_115 : decode cX12_command 115 = .ok (.aload_n 0, 1) := by decide +kernel
theorem dX12_command_116 : decode cX12_command 116 = .ok (.getfield 130, 3) := by decide +kernel
theorem dX12_command_119 : decode cX12_command 119 = .ok (.iload 4, 2) := by decide +kernel
theorem dX12_command_121 : decode cX12_command 121 = .ok (.bastore, 1) := by decide +kernel
theorem dX12_command_122 : decode cX12_command 122 = .ok (.aload_n 0, 1) := by decide +kernel
theorem dX12_command_123 : decode cX12_command 123 = .ok (.dup, 1) := by decide +kernel
theorem dX12_command_124 : decode cX12_command 124 = .ok (.getfield 130, 3) := by decide +kernel
theorem dX12_command_127 : decode cX12_command 127 = .ok (.iconst 1, 1) := by decide +kernel
theorem dX12_command_128 : decode cX12_command 128 = .ok (.iadd, 1) := by decide +kernel
theorem dX12_command_129 : decode cX12_command 129 = .ok (.putfield 130, 3) := by decide +kernel
theorem dX12_command_132 : decode cX12_command 132 = .ok (.aload_n 0, 1) := by decide +kernel
theorem dX12_command_133 : decode cX12_command 133 = .ok (.getfield 130, 3) := by decide +kernel
theorem dX12_command_136 : decode cX12_command 136 = .ok (.iconst 1, 1) := by decide +kernel
theorem dX12_command_137 : decode cX12_command 137 = .ok (.isub, 1) := by decide +kernel
theorem dX12_command_138 : decode cX12_command 138 = .ok (.ireturn, 1) := by decide +kernel
theorem dX12_isValue_0 : decode cX12_isValue 0 = .ok (.iload_n 0, 1) := by decide +kernel
theorem dX12_isValue_1 : decode cX12_isValue 1 = .ok (.tableswitch 96 0 5 #[39, 47, 57, 69, 69, 81], 39) := by decide +kernel
theorem dX12_isValue_40 : decode cX12_isValue 40 = .ok (.iload_n 1, 1) := by decide +kernel
theorem dX12_isValue_41 : decode cX12_isValue 41 = .ok (.i2l, 1) := by decide +kernel
theorem dX12_isValue_42 : decode cX12_isValue 42 = .ok (.lconst 0, 1) := by decide +kernel
theorem dX12_isValue_43 : decode cX12_isValue 43 = .ok (.lconst 1, 1) := by decide +kernel
theorem dX12_isValue_44 : decode cX12_isValue 44 = .ok (.invokestatic 111, 3) := by decide +kernel
theorem dX12_isValue_47 : decode cX12_isValue 47 = .ok (.ireturn, 1) := by decide +kernel
theorem dX12_isValue_48 : decode cX12_isValue 48 = .ok (.iload_n 1, 1) := by decide +kernel
theorem dX12_isValue_49 : decode cX12_isValue 49 = .ok (.i2l, 1) := by decide +kernel
theorem dX12_isValue_50 : decode cX12_isValue 50 = .ok (.lconst 0, 1) := by decide +kernel
theorem dX12_isValue_51 : decode cX12_isValue 51 = .ok (.ldc2_w 119, 3) := by decide +kernel
theorem dX12_isValue_54 : decode cX12_isValue 54 = .ok (.invokestatic 111, 3) := by decide +kernel
theorem dX12_isValue_57 : decode cX12_isValue 57 = .ok (.ireturn, 1) := by decide +kernel
theorem dX12_isValue_58 : decode cX12_isValue 58 = .ok (.iload_n 1, 1) := by decide +kernel
theorem dX12_isValue_59 : decode cX12_isValue 59 = .ok (.i2l, 1) := by decide +kernel
theorem dX12_isValue_60 : decode cX12_isValue 60 = .ok (.ldc2_w 144, 3) := by decide +kernel
theorem dX12_isValue_63 : decode cX12_isValue 63 = .ok (.ldc2_w 146, 3) := by decide +kernel
theorem dX12_isValue_66 : decode cX12_isValue 66 = .ok (.invokestatic 111, 3) := by decide +kernel
theorem dX12_isValue_69 : decode cX12_isValue 69 = .ok (.ireturn, 1) := by decide +kernel
theorem dX12_isValue_70 : decode cX12_isValue 70 = .ok (.iload_n 1, 1) := by decide +kernel
theorem dX12_isValue_71 : decode cX12_isValue 71 = .ok (.i2l, 1) := by decide +kernel
theorem dX12_isValue_72 : decode cX12_isValue 72 = .ok (.ldc2_w 148, 3) := by decide +kernel
theorem dX12_isValue_75 : decode cX12_isValue 75 = .ok (.ldc2_w 150, 3) := by decide +kernel
theorem dX12_isValue_78 : decode cX12_isValue 78 = .ok (.invokestatic 111, 3) := by decide +kernel
theorem dX12_isValue_81 : decode cX12_isValue 81 = .ok (.ireturn, 1) := by decide +kernel
theorem dX12_isValue_82 : decode cX12_isValue 82 = .ok (.iload_n 1, 1) := by decide +kernel
theorem dX12_isValue_83 : decode cX12_isValue 83 = .ok (.ldc 152, 2) := by decide +kernel
theorem dX12_isValue_85 : decode cX12_isValue 85 = .ok (.iand, 1) := by decide +kernel
theorem dX12_isValue_86 : decode cX12_isValue 86 = .ok (.ldc 153, 2) := by decide +kernel
theorem dX12_isValue_88 : decode cX12_isValue 88 = .ok (.if_icmp .gt 7, 3) := by decide +kernel
theorem dX12_isValue_91 : decode cX12_isValue 91 = .ok (.iconst 1, 1) := by decide +kernel
theorem dX12_isValue_92 : decode cX12_isValue 92 = .ok (.goto 4, 3) := by decide +kernel
theorem dX12_isValue_95 : decode cX12_isValue 95 = .ok (.iconst 0, 1) := by decide +kernel
theorem dX12_isValue_96 : decode cX12_isValue 96 = .ok (.ireturn, 1) := by decide +kernel
theorem dX12_isValue_97 : decode cX12_isValue 97 = .ok (.iconst 1, 1) := by decide +kernel
theorem dX12_isValue_98 : decode cX12_isValue 98 = .ok (.ireturn, 1) := by decide +kernel
theorem dX12_change_0 : decode cX12_change 0 = .ok (.aload_n 0, 1) := by decide +kernel
theorem dX12_change_1 : decode cX12_change 1 = .ok (.iload_n 1, 1) := by decide +kernel
theorem dX12_change_2 : decode cX12_change 2 = .ok (.invokevirtual 141, 3) := by decide +kernel
theorem dX12_change_5 : decode cX12_change 5 = .ok (.ifCond .eq 16, 3) := by decide +kernel
theorem dX12_change_8 : decode cX12_change 8 = .ok (.aload_n 0, 1) := by decide +kernel
theorem dX12_change_9 : decode cX12_change 9 = .ok (.getfield 13, 3) := by decide +kernel
theorem dX12_change_12 : decode cX12_change 12 = .ok (.iload_n 1, 1) := by decide +kernel
theorem dX12_change_13 : decode cX12_change 13 = .ok (.iaload, 1) := by decide +kernel
theorem dX12_change_14 : decode cX12_change 14 = .ok (.iload_n 2, 1) := by decide +kernel
theorem dX12_change_15 : decode cX12_change 15 = .ok (.invokestatic 154, 3) := by decide +kernel
theorem dX12_change_18 : decode cX12_change 18 = .ok (.ifCond .ne 5, 3) := by decide +kernel
theorem dX12_change_21 : decode cX12_change 21 = .ok (.iconst (-1), 1) := by decide +kernel
theorem dX12_change_22 : decode cX12_change 22 = .ok (.ireturn, 1) := by decide +kernel
theorem dX12_change_23 : decode cX12_change 23 = .ok (.aload_n 0, 1) := by decide +kernel
theorem dX12_change_24 : decode cX12_change 24 = .ok (.getfield 13, 3) := by decide +kernel
theorem dX12_change_27 : decode cX12_change 27 = .ok (.iload_n 1, 1) := by decide +kernel
theorem dX12_change_28 : decode cX12_change 28 = .ok (.iaload, 1) := by decide +kernel
theorem dX12_change_29 : decode cX12_change 29 = .ok (.bipush 6, 2) := by decide +kernel
theorem dX12_change_31 : decode cX12_change 31 = .ok (.if_icmp .ne 8, 3) := by decide +kernel
theorem dX12_change_34 : decode cX12_change 34 = .ok (.bipush 16, 2) := by decide +kernel
theorem dX12_change_36 : decode cX12_change 36 = .ok (.goto 20, 3) := by decide +kernel
theorem dX12_change_39 : decode cX12_change 39 = .ok (.aload_n 0, 1) := by decide +kernel
theorem dX12_change_40 : decode cX12_change 40 = .ok (.getfield 13, 3) := by decide +kernel
theorem dX12_change_43 : decode cX12_change 43 = .ok (.iload_n 1, 1) := by decide +kernel
theorem dX12_change_44 : decode cX12_change 44 = .ok (.iaload, 1) := by decide +kernel
theorem dX12_change_45 : decode cX12_change 45 = .ok (.iconst 2, 1) := by decide +kernel
theorem dX12_change_46 : decode cX12_change 46 = .ok (.if_icmp .ge 8, 3) := by decide +kernel
theorem dX12_change_49 : decode cX12_change 49 = .ok (.bipush 30, 2) := by decide +kernel
theorem dX12_change_51 : decode cX12_change 51 = .ok (.goto 5, 3) := by decide +kernel
theorem dX12_change_54 : decode cX12_change 54 = .ok (.bipush 31, 2) := by decide +kernel
theorem dX12_change_56 : decode cX12_change 56 = .ok (.istore 4, 2) := by decide +kernel
theorem dX12_change_58 : decode cX12_change 58 = .ok (.iload_n 3, 1) := by decide +kernel
theorem dX12_change_59 : decode cX12_change 59 = .ok (.iload 4, 2) := by decide +kernel
theorem dX12_change_61 : decode cX12_change 61 = .ok (.iconst (-1), 1) := by decide +kernel
theorem dX12_change_62 : decode cX12_change 62 = .ok (.ixor, 1) := by decide +kernel
theorem dX12_change_63 : decode cX12_change 63 = .ok (.iand, 1) := by decide +kernel
theorem dX12_change_64 : decode cX12_change 64 = .ok (.ifCond .eq 5, 3) := by decide +kernel
theorem dX12_change_67 : decode cX12_change 67 = .ok (.iconst (-1), 1) := by decide +kernel
theorem dX12_change_68 : decode cX12_change 68 = .ok (.ireturn, 1) := by decide +kernel
theorem dX12_change_69 : decode cX12_change 69 = .ok (.aload_n 0, 1) := by decide +kernel
theorem dX12_change_70 : decode cX12_change 70 = .ok (.getfield 26, 3) := by decide +kernel
theorem dX12_change_73 : decode cX12_change 73 = .ok (.iload_n 1, 1) := by decide +kernel
theorem dX12_change_74 : decode cX12_change 74 = .ok (.iaload, 1) := by decide +kernel
theorem dX12_change_75 : decode cX12_change 75 = .ok (.iload_n 2, 1) := by decide +kernel
theorem dX12_change_76 : decode cX12_change 76 = .ok (.if_icmp .ne 15, 3) := by decide +kernel
theorem dX12_change_79 : decode cX12_change 79 = .ok (.aload_n 0, 1) := by decide +kernel
theorem dX12_change_80 : decode cX12_change 80 = .ok (.getfield 29, 3) := by decide +kernel
theorem dX12_change_83 : decode cX12_change 83 = .ok (.iload_n 1, 1) := by decide +kernel
theorem dX12_change_84 : decode cX12_change 84 = .ok (.iaload, 1) := by decide +kernel
