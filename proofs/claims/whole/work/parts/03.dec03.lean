theorem dX12_change_85 : decode cX12_change 85 = .ok (.iload_n 3, 1) := by decide +kernel
theorem dX12_change_86 : decode cX12_change 86 = .ok (.if_icmp .ne 5, 3) := by decide +kernel
theorem dX12_change_89 : decode cX12_change 89 = .ok (.iconst 0, 1) := by decide +kernel
theorem dX12_change_90 : decode cX12_change 90 = .ok (.ireturn, 1) := by decide +kernel
theorem dX12_change_91 : decode cX12_change 91 = .ok (.aload_n 0, 1) := by decide +kernel
theorem dX12_change_92 : decode cX12_change 92 = .ok (.getfield 13, 3) := by decide +kernel
theorem dX12_change_95 : decode cX12_change 95 = .ok (.iload_n 1, 1) := by decide +kernel
theorem dX12_change_96 : decode cX12_change 96 = .ok (.iaload, 1) := by decide +kernel
theorem dX12_change_97 : decode cX12_change 97 = .ok (.bipush 6, 2) := by decide +kernel
theorem dX12_change_99 : decode cX12_change 99 = .ok (.if_icmp .eq 15, 3) := by decide +kernel
theorem dX12_change_102 : decode cX12_change 102 = .ok (.aload_n 0, 1) := by decide +kernel
theorem dX12_change_103 : decode cX12_change 103 = .ok (.getfield 158, 3) := by decide +kernel
theorem dX12_change_106 : decode cX12_change 106 = .ok (.bipush 40, 2) := by decide +kernel
theorem dX12_change_108 : decode cX12_change 108 = .ok (.if_icmp .lt 6, 3) := by decide +kernel
theorem dX12_change_111 : decode cX12_change 111 = .ok (.bipush (-3), 2) := by decide +kernel
theorem dX12_change_113 : decode cX12_change 113 = .ok (.ireturn, 1) := by decide +kernel
theorem dX12_change_114 : decode cX12_change 114 = .ok (.aload_n 0, 1) := by decide +kernel
theorem dX12_change_115 : decode cX12_change 115 = .ok (.getfield 26, 3) := by decide +kernel
theorem dX12_change_118 : decode cX12_change 118 = .ok (.iload_n 1, 1) := by decide +kernel
theorem dX12_change_119 : decode cX12_change 119 = .ok (.iload_n 2, 1) := by decide +kernel
theorem dX12_change_120 : decode cX12_change 120 = .ok (.iastore, 1) := by decide +kernel
theorem dX12_change_121 : decode cX12_change 121 = .ok (.aload_n 0, 1) := by decide +kernel
theorem dX12_change_122 : decode cX12_change 122 = .ok (.getfield 29, 3) := by decide +kernel
theorem dX12_change_125 : decode cX12_change 125 = .ok (.iload_n 1, 1) := by decide +kernel
theorem dX12_change_126 : decode cX12_change 126 = .ok (.iload_n 3, 1) := by decide +kernel
theorem dX12_change_127 : decode cX12_change 127 = .ok (.iastore, 1) := by decide +kernel
theorem dX12_change_128 : decode cX12_change 128 = .ok (.aload_n 0, 1) := by decide +kernel
theorem dX12_change_129 : decode cX12_change 129 = .ok (.getfield 13, 3) := by decide +kernel
theorem dX12_change_132 : decode cX12_change 132 = .ok (.iload_n 1, 1) := by decide +kernel
theorem dX12_change_133 : decode cX12_change 133 = .ok (.iaload, 1) := by decide +kernel
theorem dX12_change_134 : decode cX12_change 134 = .ok (.bipush 6, 2) := by decide +kernel
theorem dX12_change_136 : decode cX12_change 136 = .ok (.if_icmp .eq 80, 3) := by decide +kernel
theorem dX12_change_139 : decode cX12_change 139 = .ok (.aload_n 0, 1) := by decide +kernel
theorem dX12_change_140 : decode cX12_change 140 = .ok (.getfield 60, 3) := by decide +kernel
theorem dX12_change_143 : decode cX12_change 143 = .ok (.aload_n 0, 1) := by decide +kernel
theorem dX12_change_144 : decode cX12_change 144 = .ok (.getfield 158, 3) := by decide +kernel
theorem dX12_change_147 : decode cX12_change 147 = .ok (.iload_n 1, 1) := by decide +kernel
theorem dX12_change_148 : decode cX12_change 148 = .ok (.iastore, 1) := by decide +kernel
theorem dX12_change_149 : decode cX12_change 149 = .ok (.aload_n 0, 1) := by decide +kernel
theorem dX12_change_150 : decode cX12_change 150 = .ok (.getfield 63, 3) := by decide +kernel
theorem dX12_change_153 : decode cX12_change 153 = .ok (.aload_n 0, 1) := by decide +kernel
theorem dX12_change_154 : decode cX12_change 154 = .ok (.getfield 158, 3) := by decide +kernel
theorem dX12_change_157 : decode cX12_change 157 = .ok (.iload_n 2, 1) := by decide +kernel
theorem dX12_change_158 : decode cX12_change 158 = .ok (.iastore, 1) := by decide +kernel
theorem dX12_change_159 : decode cX12_change 159 = .ok (.aload_n 0, 1) := by decide +kernel
theorem dX12_change_160 : decode cX12_change 160 = .ok (.getfield 66, 3) := by decide +kernel
theorem dX12_change_163 : decode cX12_change 163 = .ok (.aload_n 0, 1) := by decide +kernel
theorem dX12_change_164 : decode cX12_change 164 = .ok (.getfield 158, 3) := by decide +kernel
theorem dX12_change_167 : decode cX12_change 167 = .ok (.iload_n 3, 1) := by decide +kernel
theorem dX12_change_168 : decode cX12_change 168 = .ok (.iastore, 1) := by decide +kernel
theorem dX12_change_169 : decode cX12_change 169 = .ok (.iconst 0, 1) := by decide +kernel
theorem dX12_change_170 : decode cX12_change 170 = .ok (.istore 5, 2) := by decide +kernel
theorem dX12_change_172 : decode cX12_change 172 = .ok (.iload 5, 2) := by decide +kernel
theorem dX12_change_174 : decode cX12_change 174 = .ok (.bipush 7, 2) := by decide +kernel
theorem dX12_change_176 : decode cX12_change 176 = .ok (.if_icmp .ge 30, 3) := by decide +kernel
theorem dX12_change_179 : decode cX12_change 179 = .ok (.aload_n 0, 1) := by decide +kernel
theorem dX12_change_180 : decode cX12_change 180 = .ok (.getfield 69, 3) := by decide +kernel
theorem dX12_change_183 : decode cX12_change 183 = .ok (.bipush 7, 2) := by decide +kernel
theorem dX12_change_185 : decode cX12_change 185 = .ok (.aload_n 0, 1) := by decide +kernel
theorem dX12_change_186 : decode cX12_change 186 = .ok (.getfield 158, 3) := by decide +kernel
theorem dX12_change_189 : decode cX12_change 189 = .ok (.imul, 1) := by decide +kernel
theorem dX12_change_190 : decode cX12_change 190 = .ok (.iload 5, 2) := by decide +kernel
theorem dX12_change_192 : decode cX12_change 192 = .ok (.iadd, 1) := by decide +kernel
theorem dX12_change_193 : decode cX12_change 193 = .ok (.aload_n 0, 1) := by decide +kernel
theorem dX12_change_194 : decode cX12_change 194 = .ok (.iload 5, 2) := by decide +kernel
theorem dX12_change_196 : decode cX12_change 196 = .ok (.invokevirtual 161, 3) := by decide +kernel
theorem dX12_change_199 : decode cX12_change 199 = .ok (.iastore, 1) := by decide +kernel
theorem dX12_change_200 : decode cX12_change 200 = .ok (.iinc 5 1, 3) := by decide +kernel
theorem dX12_change_203 : decode cX12_change 203 = .ok (.goto (-31), 3) := by decide +kernel
theorem dX12_change_206 : decode cX12_change 206 = .ok (.aload_n 0, 1) := by decide +kernel
theorem dX12_change_207 : decode cX12_change 207 = .ok (.dup, 1) := by decide +kernel
theorem dX12_change_208 : decode cX12_change 208 = .ok (.getfield 158, 3) := by decide +kernel
theorem dX12_change_211 : decode cX12_change 211 = .ok (.iconst 1, 1) := by decide +kernel
theorem dX12_change_212 : decode cX12_change 212 = .ok (.iadd, 1) := by decide +kernel
theorem dX12_change_213 : decode cX12_change 213 = .ok (.putfield 158, 3) := by decide +kernel
theorem dX12_change_216 : decode cX12_change 216 = .ok (.aload_n 0, 1) := by decide +kernel
theorem dX12_change_217 : decode cX12_change 217 = .ok (.invokevirtual 165, 3) := by decide +kernel
theorem dX12_change_220 : decode cX12_change 220 = .ok (.iconst 1, 1) := by decide +kernel
theorem dX12_change_221 : decode cX12_change 221 = .ok (.ireturn, 1) := by decide +kernel
theorem dX12_timeByte_0 : decode cX12_timeByte 0 = .ok (.iload_n 1, 1) := by decide +kernel
theorem dX12_timeByte_1 : decode cX12_timeByte 1 = .ok (.ifCond .ne 16, 3) := by decide +kernel
theorem dX12_timeByte_4 : decode cX12_timeByte 4 = .ok (.aload_n 0, 1) := by decide +kernel
theorem dX12_timeByte_5 : decode cX12_timeByte 5 = .ok (.getfield 57, 3) := by decide +kernel
theorem dX12_timeByte_8 : decode cX12_timeByte 8 = .ok (.iconst 0, 1) := by decide +kernel
theorem dX12_timeByte_9 : decode cX12_timeByte 9 = .ok (.iaload, 1) := by decide +kernel
theorem dX12_timeByte_10 : decode cX12_timeByte 10 = .ok (.sipush 255, 3) := by decide +kernel
theorem dX12_timeByte_13 : decode cX12_timeByte 13 = .ok (.iand, 1) := by decide +kernel
theorem dX12_timeByte_14 : decode cX12_timeByte 14 = .ok (.goto 57, 3) := by decide +kernel
theorem dX12_timeByte_17 : decode cX12_timeByte 17 = .ok (.iload_n 1, 1) := by decide +kernel
theorem dX12_timeByte_18 : decode cX12_timeByte 18 = .ok (.iconst 1, 1) := by decide +kernel
theorem dX12_timeByte_19 : decode cX12_timeByte 19 = .ok (.if_icmp .ne 15, 3) := by decide +kernel
theorem dX12_timeByte_22 : decode cX12_timeByte 22 = .ok (.aload_n 0, 1) := by decide +kernel
theorem dX12_timeByte_23 : decode cX12_timeByte 23 = .ok (.getfield 57, 3) := by decide +kernel
theorem dX12_timeByte_26 : decode cX12_timeByte 26 = .ok (.iconst 0, 1) := by decide +kernel
theorem dX12_timeByte_27 : decode cX12_timeByte 27 = .ok (.iaload, 1) := by decide +kernel
theorem dX12_timeByte_28 : decode cX12_timeByte 28 = .ok (.bipush 8, 2) := by decide +kernel
theorem dX12_timeByte_30 : decode cX12_timeByte 30 = .ok (.ishr, 1) := by decide +kernel
theorem dX12_timeByte_31 : decode cX12_timeByte 31 = .ok (.goto 40, 3) := by decide +kernel
theorem dX12_timeByte_34 : decode cX12_timeByte 34 = .ok (.iload_n 1, 1) := by decide +kernel
theorem dX12_timeByte_35 : decode cX12_timeByte 35 = .ok (.iconst 2, 1) := by decide +kernel
theorem dX12_timeByte_36 : decode cX12_timeByte 36 = .ok (.if_icmp .ne 27, 3) := by decide +kernel
theorem dX12_timeByte_39 : decode cX12_timeByte 39 = .ok (.aload_n 0, 1) := by decide +kernel
theorem dX12_timeByte_40 : decode cX12_timeByte 40 = .ok (.getfield 57, 3) := by decide +kernel
theorem dX12_timeByte_43 : decode cX12_timeByte 43 = .ok (.iconst 1, 1) := by decide +kernel
theorem dX12_timeByte_44 : decode cX12_timeByte 44 = .ok (.iaload, 1) := by decide +kernel
theorem dX12_timeByte_45 : decode cX12_timeByte 45 = .ok (.aload_n 0, 1) := by decide +kernel
theorem dX12_timeByte_46 : decode cX12_timeByte 46 = .ok (.getfield 168, 3) := by decide +kernel
theorem dX12_timeByte_49 : decode cX12_timeByte 49 = .ok (.ifCond .eq 7, 3) := by decide +kernel
theorem dX12_timeByte_52 : decode cX12_timeByte 52 = .ok (.iconst 0, 1) := by decide +kernel
theorem dX12_timeByte_53 : decode cX12_timeByte 53 = .ok (.goto 6, 3) := by decide +kernel
theorem dX12_timeByte_56 : decode cX12_timeByte 56 = .ok (.sipush 128, 3) := by decide +kernel
theorem dX12_timeByte_59 : decode cX12_timeByte 59 = .ok (.iadd, 1) := by decide +kernel
theorem dX12_timeByte_60 : decode cX12_timeByte 60 = .ok (.goto 11, 3) := by decide +kernel
theorem dX12_timeByte_63 : decode cX12_timeByte 63 = .ok (.aload_n 0, 1) := by decide +kernel
theorem dX12_timeByte_64 : decode cX12_timeByte 64 = .ok (.getfield 57, 3) := by decide +kernel
theorem dX12_timeByte_67 : decode cX12_timeByte 67 = .ok (.iload_n 1, 1) := by decide +kernel
theorem dX12_timeByte_68 : decode cX12_timeByte 68 = .ok (.iconst 1, 1) := by decide +kernel
theorem dX12_timeByte_69 : decode cX12_timeByte 69 = .ok (.isub, 1) := by decide +kernel
theorem dX12_timeByte_70 : decode cX12_timeByte 70 = .ok (.iaload, 1) := by decide +kernel
theorem dX12_timeByte_71 : decode cX12_timeByte 71 = .ok (.ireturn, 1) := by decide +kernel
theorem dX12_byteOut_0 : decode cX12_byteOut 0 = .ok (.aload_n 0, 1) := by decide +kernel
theorem dX12_byteOut_1 : decode cX12_byteOut 1 = .ok (.getfield 96, 3) := by decide +kernel
theorem dX12_byteOut_4 : decode cX12_byteOut 4 = .ok (.aload_n 0, 1) := by decide +kernel
theorem dX12_byteOut_5 : decode cX12_byteOut 5 = .ok (.getfield 172, 3) := by decide +kernel
theorem dX12_byteOut_8 : decode cX12_byteOut 8 = .ok (.iload_n 1, 1) := by decide +kernel
theorem dX12_byteOut_9 : decode cX12_byteOut 9 = .ok (.iastore, 1) := by decide +kernel
theorem dX12_byteOut_10 : decode cX12_byteOut 10 = .ok (.aload_n 0, 1) := by decide +kernel
theorem dX12_byteOut_11 : decode cX12_byteOut 11 = .ok (.dup, 1) := by decide +kernel
theorem dX12_byteOut_12 : decode cX12_byteOut 12 = .ok (.getfield 172, 3) := by decide +kernel
theorem dX12_byteOut_15 : decode cX12_byteOut 15 = .ok (.iconst 1, 1) := by decide +kernel
theorem dX12_byteOut_16 : decode cX12_byteOut 16 = .ok (.iadd, 1) := by decide +kernel
theorem dX12_byteOut_17 : decode cX12_byteOut 17 = .ok (.putfield 172, 3) := by decide +kernel
theorem dX12_byteOut_20 : decode cX12_byteOut 20 = .ok (.return_, 1) := by decide +kernel
theorem dX12_frames_0 : decode cX12_frames 0 = .ok (.aload_n 0, 1) := by decide +kernel
theorem dX12_frames_1 : decode cX12_frames 1 = .ok (.getfield 172, 3) := by decide +kernel
theorem dX12_frames_4 : decode cX12_frames 4 = .ok (.bipush 6, 2) := by decide +kernel
theorem dX12_frames_6 : decode cX12_frames 6 = .ok (.iadd, 1) := by decide +kernel
theorem dX12_frames_7 : decode cX12_frames 7 = .ok (.iload 5, 2) := by decide +kernel
theorem dX12_frames_9 : decode cX12_frames 9 = .ok (.iadd, 1) := by decide +kernel
theorem dX12_frames_10 : decode cX12_frames 10 = .ok (.sipush 4096, 3) := by decide +kernel
theorem dX12_frames_13 : decode cX12_frames 13 = .ok (.if_icmp .le 11, 3) := by decide +kernel
theorem dX12_frames_16 : decode cX12_frames 16 = .ok (.aload_n 0, 1) := by decide +kernel
theorem dX12_frames_17 : decode cX12_frames 17 = .ok (.bipush 6, 2) := by decide +kernel
theorem dX12_frames_19 : decode cX12_frames 19 = .ok (.invokevirtual 175, 3) := by decide +kernel
theorem dX12_frames_22 : decode cX12_frames 22 = .ok (.iconst 0, 1) := by decide +kernel
theorem dX12_frames_23 : decode cX12_frames 23 = .ok (.ireturn, 1) := by decide +kernel
theorem dX12_frames_24 : decode cX12_frames 24 = .ok (.aload_n 0, 1) := by decide +kernel
theorem dX12_frames_25 : decode cX12_frames 25 = .ok (.bipush 104, 2) := by decide +kernel
theorem dX12_frames_27 : decode cX12_frames 27 = .ok (.invokevirtual 179, 3) := by decide +kernel
theorem dX12_frames_30 : decode cX12_frames 30 = .ok (.aload_n 0, 1) := by decide +kernel
theorem dX12_frames_31 : decode cX12_frames 31 = .ok (.iconst 4, 1) := by decide +kernel
theorem dX12_frames_32 : decode cX12_frames 32 = .ok (.iload 5, 2) := by decide +kernel
theorem dX12_frames_34 : decode cX12_frames 34 = .ok (.iadd, 1) := by decide +kernel
theorem dX12_frames_35 : decode cX12_frames 35 = .ok (.invokevirtual 179, 3) := by decide +kernel
theorem dX12_frames_38 : decode cX12_frames 38 = .ok (.aload_n 0, 1) := by decide +kernel
theorem dX12_frames_39 : decode cX12_frames 39 = .ok (.iload_n 1, 1) := by decide +kernel
theorem dX12_frames_40 : decode cX12_frames 40 = .ok (.invokevirtual 179, 3) := by decide +kernel
theorem dX12_frames_43 : decode cX12_frames 43 = .ok (.aload_n 0, 1) := by decide +kernel
theorem dX12_frames_44 : decode cX12_frames 44 = .ok (.iload_n 2, 1) := by decide +kernel
theorem dX12_frames_45 : decode cX12_frames 45 = .ok (.invokevirtual 179, 3) := by decide +kernel
theorem dX12_frames_48 : decode cX12_frames 48 = .ok (.aload_n 0, 1) := by decide +kernel
theorem dX12_frames_49 : decode cX12_frames 49 = .ok (.iload_n 3, 1) := by decide +kernel
theorem dX12_frames_50 : decode cX12_frames 50 = .ok (.invokevirtual 179, 3) := by decide +kernel
theorem dX12_frames_53 : decode cX12_frames 53 = .ok (.aload_n 0, 1) := by decide +kernel
theorem dX12_frames_54 : decode cX12_frames 54 = .ok (.iload 4, 2) := by decide +kernel
theorem dX12_frames_56 : decode cX12_frames 56 = .ok (.invokevirtual 179, 3) := by decide +kernel
theorem dX12_frames_59 : decode cX12_frames 59 = .ok (.iconst 0, 1) := by decide +kernel
theorem dX12_frames_60 : decode cX12_frames 60 = .ok (.istore 6, 2) := by decide +kernel
theorem dX12_frames_62 : decode cX12_frames 62 = .ok (.iload 6, 2) := by decide +kernel
theorem dX12_frames_64 : decode cX12_frames 64 = .ok (.iload 5, 2) := by decide +kernel
theorem dX12_frames_66 : decode cX12_frames 66 = .ok (.if_icmp .ge 20, 3) := by decide +kernel
theorem dX12_frames_69 : decode cX12_frames 69 = .ok (.aload_n 0, 1) := by decide +kernel
theorem dX12_frames_70 : decode cX12_frames 70 = .ok (.aload_n 0, 1) := by decide +kernel
theorem dX12_frames_71 : decode cX12_frames 71 = .ok (.getfield 102, 3) := by decide +kernel
theorem dX12_frames_74 : decode cX12_frames 74 = .ok (.iload 6, 2) := by decide +kernel
theorem dX12_frames_76 : decode cX12_frames 76 = .ok (.iaload, 1) := by decide +kernel
theorem dX12_frames_77 : decode cX12_frames 77 = .ok (.invokevirtual 179, 3) := by decide +kernel
theorem dX12_frames_80 : decode cX12_frames 80 = .ok (.iinc 6 1, 3) := by decide +kernel
theorem dX12_frames_83 : decode cX12_frames 83 = .ok (.goto (-21), 3) := by decide +kernel
theorem dX12_frames_86 : decode cX12_frames 86 = .ok (.iconst 1, 1) := by decide +kernel
theorem dX12_frames_87 : decode cX12_frames 87 = .ok (.ireturn, 1) := by decide +kernel
theorem dX12_ackLow_0 : decode cX12_ackLow 0 = .ok (.aload_n 0, 1) := by decide +kernel
theorem dX12_ackLow_1 : decode cX12_ackLow 1 = .ok (.getfield 182, 3) := by decide +kernel
theorem dX12_ackLow_4 : decode cX12_ackLow 4 = .ok (.ldc 185, 2) := by decide +kernel
theorem dX12_ackLow_6 : decode cX12_ackLow 6 = .ok (.irem, 1) := by decide +kernel
theorem dX12_ackLow_7 : decode cX12_ackLow 7 = .ok (.iconst 2, 1) := by decide +kernel
theorem dX12_ackLow_8 : decode cX12_ackLow 8 = .ok (.imul, 1) := by decide +kernel
theorem dX12_ackLow_9 : decode cX12_ackLow 9 = .ok (.sipush 255, 3) := by decide +kernel
theorem dX12_ackLow_12 : decode cX12_ackLow 12 = .ok (.iand, 1) := by decide +kernel
theorem dX12_ackLow_13 : decode cX12_ackLow 13 = .ok (.ireturn, 1) := by decide +kernel
theorem dX12_ackHigh_0 : decode cX12_ackHigh 0 = .ok (.aload_n 0, 1) := by decide +kernel
theorem dX12_ackHigh_1 : decode cX12_ackHigh 1 = .ok (.getfield 182, 3) := by decide +kernel
theorem dX12_ackHigh_4 : decode cX12_ackHigh 4 = .ok (.ldc 185, 2) := by decide +kernel
theorem dX12_ackHigh_6 : decode cX12_ackHigh 6 = .ok (.irem, 1) := by decide +kernel
theorem dX12_ackHigh_7 : decode cX12_ackHigh 7 = .ok (.bipush 7, 2) := by decide +kernel
theorem dX12_ackHigh_9 : decode cX12_ackHigh 9 = .ok (.ishr, 1) := by decide +kernel
theorem dX12_ackHigh_10 : decode cX12_ackHigh 10 = .ok (.ireturn, 1) := by decide +kernel
theorem dX12_tells_0 : decode cX12_tells 0 = .ok (.aload_n 0, 1) := by decide +kernel
theorem dX12_tells_1 : decode cX12_tells 1 = .ok (.iconst 1, 1) := by decide +kernel
theorem dX12_tells_2 : decode cX12_tells 2 = .ok (.iconst 0, 1) := by decide +kernel
theorem dX12_tells_3 : decode cX12_tells 3 = .ok (.aload_n 0, 1) := by decide +kernel
theorem dX12_tells_4 : decode cX12_tells 4 = .ok (.invokevirtual 186, 3) := by decide +kernel
theorem dX12_tells_7 : decode cX12_tells 7 = .ok (.aload_n 0, 1) := by decide +kernel
theorem dX12_tells_8 : decode cX12_tells 8 = .ok (.invokevirtual 190, 3) := by decide +kernel
theorem dX12_tells_11 : decode cX12_tells 11 = .ok (.iconst 0, 1) := by decide +kernel
theorem dX12_tells_12 : decode cX12_tells 12 = .ok (.invokevirtual 193, 3) := by decide +kernel
theorem dX12_tells_15 : decode cX12_tells 15 = .ok (.ifCond .eq 11, 3) := by decide +kernel
theorem dX12_tells_18 : decode cX12_tells 18 = .ok (.aload_n 0, 1) := by decide +kernel
theorem dX12_tells_19 : decode cX12_tells 19 = .ok (.aload_n 0, 1) := by decide +kernel
theorem dX12_tells_20 : decode cX12_tells 20 = .ok (.getfield 182, 3) := by decide +kernel
theorem dX12_tells_23 : decode cX12_tells 23 = .ok (.putfield 197, 3) := by decide +kernel
theorem dX12_tells_26 : decode cX12_tells 26 = .ok (.return_, 1) := by decide +kernel
theorem dX12_sendsDraft_0 : decode cX12_sendsDraft 0 = .ok (.aload_n 0, 1) := by decide +kernel
theorem dX12_sendsDraft_1 : decode cX12_sendsDraft 1 = .ok (.getfield 200, 3) := by decide +kernel
theorem dX12_sendsDraft_4 : decode cX12_sendsDraft 4 = .ok (.ldc 185, 2) := by decide +kernel
theorem dX12_sendsDraft_6 : decode cX12_sendsDraft 6 = .ok (.irem, 1) := by decide +kernel
theorem dX12_sendsDraft_7 : decode cX12_sendsDraft 7 = .ok (.istore_n 1, 1) := by decide +kernel
theorem dX12_sendsDraft_8 : decode cX12_sendsDraft 8 = .ok (.aload_n 0, 1) := by decide +kernel
theorem dX12_sendsDraft_9 : decode cX12_sendsDraft 9 = .ok (.iload_n 1, 1) := by decide +kernel
theorem dX12_sendsDraft_10 : decode cX12_sendsDraft 10 = .ok (.iconst 2, 1) := by decide +kernel
theorem dX12_sendsDraft_11 : decode cX12_sendsDraft 11 = .ok (.imul, 1) := by decide +kernel
theorem dX12_sendsDraft_12 : decode cX12_sendsDraft 12 = .ok (.sipush 255, 3) := by decide +kernel
theorem dX12_sendsDraft_15 : decode cX12_sendsDraft 15 = .ok (.iand, 1) := by decide +kernel
theorem dX12_sendsDraft_16 : decode cX12_sendsDraft 16 = .ok (.iload_n 1, 1) := by decide +kernel
theorem dX12_sendsDraft_17 : decode cX12_sendsDraft 17 = .ok (.bipush 7, 2) := by decide +kernel
theorem dX12_sendsDraft_19 : decode cX12_sendsDraft 19 = .ok (.ishr, 1) := by decide +kernel
theorem dX12_sendsDraft_20 : decode cX12_sendsDraft 20 = .ok (.aload_n 0, 1) := by decide +kernel
theorem dX12_sendsDraft_21 : decode cX12_sendsDraft 21 = .ok (.invokevirtual 186, 3) := by decide +kernel
theorem dX12_sendsDraft_24 : decode cX12_sendsDraft 24 = .ok (.aload_n 0, 1) := by decide +kernel
theorem dX12_sendsDraft_25 : decode cX12_sendsDraft 25 = .ok (.invokevirtual 190, 3) := by decide +kernel
theorem dX12_sendsDraft_28 : decode cX12_sendsDraft 28 = .ok (.aload_n 0, 1) := by decide +kernel
theorem dX12_sendsDraft_29 : decode cX12_sendsDraft 29 = .ok (.getfield 203, 3) := by decide +kernel
theorem dX12_sendsDraft_32 : decode cX12_sendsDraft 32 = .ok (.invokevirtual 193, 3) := by decide +kernel
theorem dX12_sendsDraft_35 : decode cX12_sendsDraft 35 = .ok (.ifCond .ne 5, 3) := by decide +kernel
theorem dX12_sendsDraft_38 : decode cX12_sendsDraft 38 = .ok (.iconst 0, 1) := by decide +kernel
theorem dX12_sendsDraft_39 : decode cX12_sendsDraft 39 = .ok (.ireturn, 1) := by decide +kernel
theorem dX12_sendsDraft_40 : decode cX12_sendsDraft 40 = .ok (.aload_n 0, 1) := by decide +kernel
theorem dX12_sendsDraft_41 : decode cX12_sendsDraft 41 = .ok (.aload_n 0, 1) := by decide +kernel
theorem dX12_sendsDraft_42 : decode cX12_sendsDraft 42 = .ok (.getfield 182, 3) := by decide +kernel
theorem dX12_sendsDraft_45 : decode cX12_sendsDraft 45 = .ok (.putfield 197, 3) := by decide +kernel
theorem dX12_sendsDraft_48 : decode cX12_sendsDraft 48 = .ok (.aload_n 0, 1) := by decide +kernel
theorem dX12_sendsDraft_49 : decode cX12_sendsDraft 49 = .ok (.dup, 1) := by decide +kernel
theorem dX12_sendsDraft_50 : decode cX12_sendsDraft 50 = .ok (.getfield 200, 3) := by decide +kernel
theorem dX12_sendsDraft_53 : decode cX12_sendsDraft 53 = .ok (.iconst 1, 1) := by decide +kernel
theorem dX12_sendsDraft_54 : decode cX12_sendsDraft 54 = .ok (.iadd, 1) := by decide +kernel
theorem dX12_sendsDraft_55 : decode cX12_sendsDraft 55 = .ok (.putfield 200, 3) := by decide +kernel
theorem dX12_sendsDraft_58 : decode cX12_sendsDraft 58 = .ok (.aload_n 0, 1) := by decide +kernel
theorem dX12_sendsDraft_59 : decode cX12_sendsDraft 59 = .ok (.getfield 72, 3) := by decide +kernel
theorem dX12_sendsDraft_62 : decode cX12_sendsDraft 62 = .ok (.aload_n 0, 1) := by decide +kernel
theorem dX12_sendsDraft_63 : decode cX12_sendsDraft 63 = .ok (.getfield 206, 3) := by decide +kernel
theorem dX12_sendsDraft_66 : decode cX12_sendsDraft 66 = .ok (.aload_n 0, 1) := by decide +kernel
theorem dX12_sendsDraft_67 : decode cX12_sendsDraft 67 = .ok (.getfield 209, 3) := by decide +kernel
theorem dX12_sendsDraft_70 : decode cX12_sendsDraft 70 = .ok (.iastore, 1) := by decide +kernel
theorem dX12_sendsDraft_71 : decode cX12_sendsDraft 71 = .ok (.aload_n 0, 1) := by decide +kernel
theorem dX12_sendsDraft_72 : decode cX12_sendsDraft 72 = .ok (.dup, 1) := by decide +kernel
theorem dX12_sendsDraft_73 : decode cX12_sendsDraft 73 = .ok (.getfield 206, 3) := by decide +kernel
theorem dX12_sendsDraft_76 : decode cX12_sendsDraft 76 = .ok (.iconst 1, 1) := by decide +kernel
theorem dX12_sendsDraft_77 : decode cX12_sendsDraft 77 = .ok (.iadd, 1) := by decide +kernel
theorem dX12_sendsDraft_78 : decode cX12_sendsDraft 78 = .ok (.putfield 206, 3) := by decide +kernel
theorem dX12_sendsDraft_81 : decode cX12_sendsDraft 81 = .ok (.iconst 1, 1) := by decide +kernel
theorem dX12_sendsDraft_82 : decode cX12_sendsDraft 82 = .ok (.ireturn, 1) := by decide +kernel
theorem dX12_put_0 : decode cX12_put 0 = .ok (.aload_n 0, 1) := by decide +kernel
theorem dX12_put_1 : decode cX12_put 1 = .ok (.getfield 102, 3) := by decide +kernel
theorem dX12_put_4 : decode cX12_put 4 = .ok (.aload_n 0, 1) := by decide +kernel
theorem dX12_put_5 : decode cX12_put 5 = .ok (.getfield 203, 3) := by decide +kernel
theorem dX12_put_8 : decode cX12_put 8 = .ok (.iload_n 1, 1) := by decide +kernel
theorem dX12_put_9 : decode cX12_put 9 = .ok (.iastore, 1) := by decide +kernel
theorem dX12_put_10 : decode cX12_put 10 = .ok (.aload_n 0, 1) := by decide +kernel
theorem dX12_put_11 : decode cX12_put 11 = .ok (.dup, 1) := by decide +kernel
theorem dX12_put_12 : decode cX12_put 12 = .ok (.getfield 203, 3) := by decide +kernel
theorem dX12_put_15 : decode cX12_put 15 = .ok (.iconst 1, 1) := by decide +kernel
theorem dX12_put_16 : decode cX12_put 16 = .ok (.iadd, 1) := by decide +kernel
theorem dX12_put_17 : decode cX12_put 17 = .ok (.putfield 203, 3) := by decide +kernel
theorem dX12_put_20 : decode cX12_put 20 = .ok (.return_, 1) := by decide +kernel
theorem dX12_putNumber_0 : decode cX12_putNumber 0 = .ok (.iconst 0, 1) := by decide +kernel
theorem dX12_putNumber_1 : decode cX12_putNumber 1 = .ok (.istore_n 3, 1) := by decide +kernel
theorem dX12_putNumber_2 : decode cX12_putNumber 2 = .ok (.iload_n 3, 1) := by decide +kernel
theorem dX12_putNumber_3 : decode cX12_putNumber 3 = .ok (.iload_n 2, 1) := by decide +kernel
theorem dX12_putNumber_4 : decode cX12_putNumber 4 = .ok (.if_icmp .ge 23, 3) := by decide +kernel
theorem dX12_putNumber_7 : decode cX12_putNumber 7 = .ok (.aload_n 0, 1) := by decide +kernel
theorem dX12_putNumber_8 : decode cX12_putNumber 8 = .ok (.iload_n 1, 1) := by decide +kernel
theorem dX12_putNumber_9 : decode cX12_putNumber 9 = .ok (.bipush 8, 2) := by decide +kernel
theorem dX12_putNumber_11 : decode cX12_putNumber 11 = .ok (.iload_n 3, 1) := by decide +kernel
theorem dX12_putNumber_12 : decode cX12_putNumber 12 = .ok (.imul, 1) := by decide +kernel
theorem dX12_putNumber_13 : decode cX12_putNumber 13 = .ok (.ishr, 1) := by decide +kernel
theorem dX12_putNumber_14 : decode cX12_putNumber 14 = .ok (.sipush 255, 3) := by decide +kernel
theorem dX12_putNumber_17 : decode cX12_putNumber 17 = .ok (.iand, 1) := by decide +kernel
theorem dX12_putNumber_18 : decode cX12_putNumber 18 = .ok (.invokevirtual 212, 3) := by decide +kernel
theorem dX12_putNumber_21 : decode cX12_putNumber 21 = .ok (.iinc 3 1, 3) := by decide +kernel
theorem dX12_putNumber_24 : decode cX12_putNumber 24 = .ok (.goto (-22), 3) := by decide +kernel
theorem dX12_putNumber_27 : decode cX12_putNumber 27 = .ok (.return_, 1) := by decide +kernel
theorem dX12_typeOf_0 : decode cX12_typeOf 0 = .ok (.iload_n 0, 1) := by decide +kernel
theorem dX12_typeOf_1 : decode cX12_typeOf 1 = .ok (.ifCond .ne 7, 3) := by decide +kernel
theorem dX12_typeOf_4 : decode cX12_typeOf 4 = .ok (.iconst 1, 1) := by decide +kernel
theorem dX12_typeOf_5 : decode cX12_typeOf 5 = .ok (.goto 53, 3) := by decide +kernel
theorem dX12_typeOf_8 : decode cX12_typeOf 8 = .ok (.iload_n 0, 1) := by decide +kernel
theorem dX12_typeOf_9 : decode cX12_typeOf 9 = .ok (.iconst 1, 1) := by decide +kernel
theorem dX12_typeOf_10 : decode cX12_typeOf 10 = .ok (.if_icmp .ne 7, 3) := by decide +kernel
theorem dX12_typeOf_13 : decode cX12_typeOf 13 = .ok (.iconst 3, 1) := by decide +kernel
theorem dX12_typeOf_14 : decode cX12_typeOf 14 = .ok (.goto 44, 3) := by decide +kernel
theorem dX12_typeOf_17 : decode cX12_typeOf 17 = .ok (.iload_n 0, 1) := by decide +kernel
theorem dX12_typeOf_18 : decode cX12_typeOf 18 = .ok (.iconst 2, 1) := by decide +kernel
theorem dX12_typeOf_19 : decode cX12_typeOf 19 = .ok (.if_icmp .ne 7, 3) := by decide +kernel
theorem dX12_typeOf_22 : decode cX12_typeOf 22 = .ok (.iconst 5, 1) := by decide +kernel
theorem dX12_typeOf_23 : decode cX12_typeOf 23 = .ok (.goto 35, 3) := by decide +kernel
theorem dX12_typeOf_26 : decode cX12_typeOf 26 = .ok (.iload_n 0, 1) := by decide +kernel
theorem dX12_typeOf_27 : decode cX12_typeOf 27 = .ok (.iconst 3, 1) := by decide +kernel
theorem dX12_typeOf_28 : decode cX12_typeOf 28 = .ok (.if_icmp .ne 8, 3) := by decide +kernel
theorem dX12_typeOf_31 : decode cX12_typeOf 31 = .ok (.bipush 9, 2) := by decide +kernel
theorem dX12_typeOf_33 : decode cX12_typeOf 33 = .ok (.goto 25, 3) := by decide +kernel
theorem dX12_typeOf_36 : decode cX12_typeOf 36 = .ok (.iload_n 0, 1) := by decide +kernel
theorem dX12_typeOf_37 : decode cX12_typeOf 37 = .ok (.iconst 4, 1) := by decide +kernel
theorem dX12_typeOf_38 : decode cX12_typeOf 38 = .ok (.if_icmp .ne 8, 3) := by decide +kernel
theorem dX12_typeOf_41 : decode cX12_typeOf 41 = .ok (.bipush 11, 2) := by decide +kernel
theorem dX12_typeOf_43 : decode cX12_typeOf 43 = .ok (.goto 15, 3) := by decide +kernel
theorem dX12_typeOf_46 : decode cX12_typeOf 46 = .ok (.iload_n 0, 1) := by decide +kernel
theorem dX12_typeOf_47 : decode cX12_typeOf 47 = .ok (.iconst 5, 1) := by decide +kernel
theorem dX12_typeOf_48 : decode cX12_typeOf 48 = .ok (.if_icmp .ne 8, 3) := by decide +kernel
theorem dX12_typeOf_51 : decode cX12_typeOf 51 = .ok (.bipush 13, 2) := by decide +kernel
theorem dX12_typeOf_53 : decode cX12_typeOf 53 = .ok (.goto 5, 3) := by decide +kernel
theorem dX12_typeOf_56 : decode cX12_typeOf 56 = .ok (.bipush 15, 2) := by decide +kernel
theorem dX12_typeOf_58 : decode cX12_typeOf 58 = .ok (.ireturn, 1) := by decide +kernel
theorem dX12_timedTypeOf_0 : decode cX12_timedTypeOf 0 = .ok (.iload_n 0, 1) := by decide +kernel
theorem dX12_timedTypeOf_1 : decode cX12_timedTypeOf 1 = .ok (.iconst 3, 1) := by decide +kernel
theorem dX12_timedTypeOf_2 : decode cX12_timedTypeOf 2 = .ok (.if_icmp .ge 10, 3) := by decide +kernel
theorem dX12_timedTypeOf_5 : decode cX12_timedTypeOf 5 = .ok (.bipush 30, 2) := by decide +kernel
theorem dX12_timedTypeOf_7 : decode cX12_timedTypeOf 7 = .ok (.iload_n 0, 1) := by decide +kernel
theorem dX12_timedTypeOf_8 : decode cX12_timedTypeOf 8 = .ok (.iadd, 1) := by decide +kernel
theorem dX12_timedTypeOf_9 : decode cX12_timedTypeOf 9 = .ok (.goto 7, 3) := by decide +kernel
theorem dX12_timedTypeOf_12 : decode cX12_timedTypeOf 12 = .ok (.bipush 31, 2) := by decide +kernel
theorem dX12_timedTypeOf_14 : decode cX12_timedTypeOf 14 = .ok (.iload_n 0, 1) := by decide +kernel
theorem dX12_timedTypeOf_15 : decode cX12_timedTypeOf 15 = .ok (.iadd, 1) := by decide +kernel
theorem dX12_timedTypeOf_16 : decode cX12_timedTypeOf 16 = .ok (.ireturn, 1) := by decide +kernel
theorem dX12_head_0 : decode cX12_head 0 = .ok (.aload_n 0, 1) := by decide +kernel
theorem dX12_head_1 : decode cX12_head 1 = .ok (.iconst 0, 1) := by decide +kernel
theorem dX12_head_2 : decode cX12_head 2 = .ok (.putfield 203, 3) := by decide +kernel
theorem dX12_head_5 : decode cX12_head 5 = .ok (.aload_n 0, 1) := by decide +kernel
theorem dX12_head_6 : decode cX12_head 6 = .ok (.iload_n 1, 1) := by decide +kernel
theorem dX12_head_7 : decode cX12_head 7 = .ok (.invokevirtual 212, 3) := by decide +kernel
theorem dX12_head_10 : decode cX12_head 10 = .ok (.aload_n 0, 1) := by decide +kernel
theorem dX12_head_11 : decode cX12_head 11 = .ok (.iload_n 2, 1) := by decide +kernel
theorem dX12_head_12 : decode cX12_head 12 = .ok (.invokevirtual 212, 3) := by decide +kernel
theorem dX12_head_15 : decode cX12_head 15 = .ok (.aload_n 0, 1) := by decide +kernel
theorem dX12_head_16 : decode cX12_head 16 = .ok (.iload_n 3, 1) := by decide +kernel
theorem dX12_head_17 : decode cX12_head 17 = .ok (.invokevirtual 212, 3) := by decide +kernel
theorem dX12_head_20 : decode cX12_head 20 = .ok (.aload_n 0, 1) := by decide +kernel
theorem dX12_head_21 : decode cX12_head 21 = .ok (.iload 4, 2) := by decide +kernel
theorem dX12_head_23 : decode cX12_head 23 = .ok (.invokevirtual 212, 3) := by decide +kernel
theorem dX12_head_26 : decode cX12_head 26 = .ok (.aload_n 0, 1) := by decide +kernel
theorem dX12_head_27 : decode cX12_head 27 = .ok (.aload_n 0, 1) := by decide +kernel
theorem dX12_head_28 : decode cX12_head 28 = .ok (.getfield 7, 3) := by decide +kernel
theorem dX12_head_31 : decode cX12_head 31 = .ok (.iconst 0, 1) := by decide +kernel
theorem dX12_head_32 : decode cX12_head 32 = .ok (.iaload, 1) := by decide +kernel
theorem dX12_head_33 : decode cX12_head 33 = .ok (.iconst 2, 1) := by decide +kernel
theorem dX12_head_34 : decode cX12_head 34 = .ok (.invokevirtual 215, 3) := by decide +kernel
theorem dX12_head_37 : decode cX12_head 37 = .ok (.return_, 1) := by decide +kernel
theorem dX12_object_0 : decode cX12_object 0 = .ok (.aload_n 0, 1) := by decide +kernel
theorem dX12_object_1 : decode cX12_object 1 = .ok (.getfield 13, 3) := by decide +kernel
theorem dX12_object_4 : decode cX12_object 4 = .ok (.iload_n 1, 1) := by decide +kernel
theorem dX12_object_5 : decode cX12_object 5 = .ok (.iaload, 1) := by decide +kernel
theorem dX12_object_6 : decode cX12_object 6 = .ok (.istore 4, 2) := by decide +kernel
theorem dX12_object_8 : decode cX12_object 8 = .ok (.aload_n 0, 1) := by decide +kernel
theorem dX12_object_9 : decode cX12_object 9 = .ok (.aload_n 0, 1) := by decide +kernel
theorem dX12_object_10 : decode cX12_object 10 = .ok (.getfield 16, 3) := by decide +kernel
theorem dX12_object_13 : decode cX12_object 13 = .ok (.iload_n 1, 1) := by decide +kernel
theorem dX12_object_14 : decode cX12_object 14 = .ok (.iaload, 1) := by decide +kernel
theorem dX12_object_15 : decode cX12_object 15 = .ok (.iconst 3, 1) := by decide +kernel
theorem dX12_object_16 : decode cX12_object 16 = .ok (.invokevirtual 215, 3) := by decide +kernel
theorem dX12_object_19 : decode cX12_object 19 = .ok (.iload_n 3, 1) := by decide +kernel
theorem dX12_object_20 : decode cX12_object 20 = .ok (.iconst 3, 1) := by decide +kernel
theorem dX12_object_21 : decode cX12_object 21 = .ok (.ishl, 1) := by decide +kernel
theorem dX12_object_22 : decode cX12_object 22 = .ok (.sipush 240, 3) := by decide +kernel
theorem dX12_object_25 : decode cX12_object 25 = .ok (.iand, 1) := by decide +kernel
theorem dX12_object_26 : decode cX12_object 26 = .ok (.istore 5, 2) := by decide +kernel
theorem dX12_object_28 : decode cX12_object 28 = .ok (.iload 4, 2) := by decide +kernel
theorem dX12_object_30 : decode cX12_object 30 = .ok (.iconst 2, 1) := by decide +kernel
theorem dX12_object_31 : decode cX12_object 31 = .ok (.if_icmp .ge 12, 3) := by decide +kernel
theorem dX12_object_34 : decode cX12_object 34 = .ok (.aload_n 0, 1) := by decide +kernel
theorem dX12_object_35 : decode cX12_object 35 = .ok (.iload_n 2, 1) := by decide +kernel
theorem dX12_object_36 : decode cX12_object 36 = .ok (.iload 5, 2) := by decide +kernel
theorem dX12_object_38 : decode cX12_object 38 = .ok (.ior, 1) := by decide +kernel
theorem dX12_object_39 : decode cX12_object 39 = .ok (.invokevirtual 212, 3) := by decide +kernel
theorem dX12_object_42 : decode cX12_object 42 = .ok (.return_, 1) := by decide +kernel
theorem dX12_object_43 : decode cX12_object 43 = .ok (.aload_n 0, 1) := by decide +kernel
theorem dX12_object_44 : decode cX12_object 44 = .ok (.iload 4, 2) := by decide +kernel
theorem dX12_object_46 : decode cX12_object 46 = .ok (.iconst 2, 1) := by decide +kernel
theorem dX12_object_47 : decode cX12_object 47 = .ok (.if_icmp .ne 10, 3) := by decide +kernel
theorem dX12_object_50 : decode cX12_object 50 = .ok (.iload_n 2, 1) := by decide +kernel
theorem dX12_object_51 : decode cX12_object 51 = .ok (.bipush 127, 2) := by decide +kernel
theorem dX12_object_53 : decode cX12_object 53 = .ok (.iand, 1) := by decide +kernel
theorem dX12_object_54 : decode cX12_object 54 = .ok (.goto 4, 3) := by decide +kernel
theorem dX12_object_57 : decode cX12_object 57 = .ok (.iload_n 2, 1) := by decide +kernel
theorem dX12_object_58 : decode cX12_object 58 = .ok (.iload 4, 2) := by decide +kernel
theorem dX12_object_60 : decode cX12_object 60 = .ok (.iconst 2, 1) := by decide +kernel
theorem dX12_object_61 : decode cX12_object 61 = .ok (.if_icmp .ne 7, 3) := by decide +kernel
theorem dX12_object_64 : decode cX12_object 64 = .ok (.iconst 1, 1) := by decide +kernel
theorem dX12_object_65 : decode cX12_object 65 = .ok (.goto 14, 3) := by decide +kernel
theorem dX12_object_68 : decode cX12_object 68 = .ok (.iload 4, 2) := by decide +kernel
theorem dX12_object_70 : decode cX12_object 70 = .ok (.iconst 5, 1) := by decide +kernel
theorem dX12_object_71 : decode cX12_object 71 = .ok (.if_icmp .ge 7, 3) := by decide +kernel
theorem dX12_object_74 : decode cX12_object 74 = .ok (.iconst 2, 1) := by decide +kernel
theorem dX12_object_75 : decode cX12_object 75 = .ok (.goto 4, 3) := by decide +kernel
theorem dX12_object_78 : decode cX12_object 78 = .ok (.iconst 4, 1) := by decide +kernel
theorem dX12_object_79 : decode cX12_object 79 = .ok (.invokevirtual 215, 3) := by decide +kernel
theorem dX12_object_82 : decode cX12_object 82 = .ok (.aload_n 0, 1) := by decide +kernel
theorem dX12_object_83 : decode cX12_object 83 = .ok (.iload 4, 2) := by decide +kernel
theorem dX12_object_85 : decode cX12_object 85 = .ok (.bipush 6, 2) := by decide +kernel
theorem dX12_object_87 : decode cX12_object 87 = .ok (.if_icmp .ne 21, 3) := by decide +kernel
theorem dX12_object_90 : decode cX12_object 90 = .ok (.aload_n 0, 1) := by decide +kernel
theorem dX12_object_91 : decode cX12_object 91 = .ok (.getfield 219, 3) := by decide +kernel
theorem dX12_object_94 : decode cX12_object 94 = .ok (.bipush 32, 2) := by decide +kernel
theorem dX12_object_96 : decode cX12_object 96 = .ok (.irem, 1) := by decide +kernel
theorem dX12_object_97 : decode cX12_object 97 = .ok (.iload_n 3, 1) := by decide +kernel
theorem dX12_object_98 : decode cX12_object 98 = .ok (.iconst 3, 1) := by decide +kernel
theorem dX12_object_99 : decode cX12_object 99 = .ok (.ishl, 1) := by decide +kernel
theorem dX12_object_100 : decode cX12_object 100 = .ok (.sipush 128, 3) := by decide +kernel
theorem dX12_object_103 : decode cX12_object 103 = .ok (.iand, 1) := by decide +kernel
theorem dX12_object_104 : decode cX12_object 104 = .ok (.ior, 1) := by decide +kernel
theorem dX12_object_105 : decode cX12_object 105 = .ok (.goto 9, 3) := by decide +kernel
theorem dX12_object_108 : decode cX12_object 108 = .ok (.iload_n 3, 1) := by decide +kernel
theorem dX12_object_109 : decode cX12_object 109 = .ok (.iconst 1, 1) := by decide +kernel
theorem dX12_object_110 : decode cX12_object 110 = .ok (.iand, 1) := by decide +kernel
theorem dX12_object_111 : decode cX12_object 111 = .ok (.iload 5, 2) := by decide +kernel
theorem dX12_object_113 : decode cX12_object 113 = .ok (.ior, 1) := by decide +kernel
theorem dX12_object_114 : decode cX12_object 114 = .ok (.invokevirtual 212, 3) := by decide +kernel
theorem dX12_object_117 : decode cX12_object 117 = .ok (.return_, 1) := by decide +kernel
theorem dX12_sends_0 : decode cX12_sends 0 = .ok (.aload_n 0, 1) := by decide +kernel
theorem dX12_sends_1 : decode cX12_sends 1 = .ok (.getfield 125, 3) := by decide +kernel
theorem dX12_sends_4 : decode cX12_sends 4 = .ok (.iconst 2, 1) := by decide +kernel
theorem dX12_sends_5 : decode cX12_sends 5 = .ok (.if_icmp .ne 110, 3) := by decide +kernel
theorem dX12_sends_8 : decode cX12_sends 8 = .ok (.aload_n 0, 1) := by decide +kernel
theorem dX12_sends_9 : decode cX12_sends 9 = .ok (.getfield 206, 3) := by decide +kernel
theorem dX12_sends_12 : decode cX12_sends 12 = .ok (.aload_n 0, 1) := by decide +kernel
theorem dX12_sends_13 : decode cX12_sends 13 = .ok (.getfield 7, 3) := by decide +kernel
theorem dX12_sends_16 : decode cX12_sends 16 = .ok (.iconst 1, 1) := by decide +kernel
theorem dX12_sends_17 : decode cX12_sends 17 = .ok (.iaload, 1) := by decide +kernel
theorem dX12_sends_18 : decode cX12_sends 18 = .ok (.if_icmp .ge 97, 3) := by decide +kernel
theorem dX12_sends_21 : decode cX12_sends 21 = .ok (.aload_n 0, 1) := by decide +kernel
theorem dX12_sends_22 : decode cX12_sends 22 = .ok (.getfield 222, 3) := by decide +kernel
theorem dX12_sends_25 : decode cX12_sends 25 = .ok (.ifCond .gt 10, 3) := by decide +kernel
theorem dX12_sends_28 : decode cX12_sends 28 = .ok (.aload_n 0, 1) := by decide +kernel
theorem dX12_sends_29 : decode cX12_sends 29 = .ok (.getfield 158, 3) := by decide +kernel
theorem dX12_sends_32 : decode cX12_sends 32 = .ok (.ifCond .le 83, 3) := by decide +kernel
theorem dX12_sends_35 : decode cX12_sends 35 = .ok (.aload_n 0, 1) := by decide +kernel
theorem dX12_sends_36 : decode cX12_sends 36 = .ok (.getfield 222, 3) := by decide +kernel
theorem dX12_sends_39 : decode cX12_sends 39 = .ok (.ifCond .le 68, 3) := by decide +kernel
theorem dX12_sends_42 : decode cX12_sends 42 = .ok (.aload_n 0, 1) := by decide +kernel
theorem dX12_sends_43 : decode cX12_sends 43 = .ok (.aload_n 0, 1) := by decide +kernel
theorem dX12_sends_44 : decode cX12_sends 44 = .ok (.getfield 90, 3) := by decide +kernel
theorem dX12_sends_47 : decode cX12_sends 47 = .ok (.iconst 0, 1) := by decide +kernel
theorem dX12_sends_48 : decode cX12_sends 48 = .ok (.iaload, 1) := by decide +kernel
theorem dX12_sends_49 : decode cX12_sends 49 = .ok (.putfield 203, 3) := by decide +kernel
theorem dX12_sends_52 : decode cX12_sends 52 = .ok (.iconst 0, 1) := by decide +kernel
theorem dX12_sends_53 : decode cX12_sends 53 = .ok (.istore_n 1, 1) := by decide +kernel
theorem dX12_sends_54 : decode cX12_sends 54 = .ok (.iload_n 1, 1) := by decide +kernel
theorem dX12_sends_55 : decode cX12_sends 55 = .ok (.aload_n 0, 1) := by decide +kernel
theorem dX12_sends_56 : decode cX12_sends 56 = .ok (.getfield 203, 3) := by decide +kernel
theorem dX12_sends_59 : decode cX12_sends 59 = .ok (.if_icmp .ge 21, 3) := by decide +kernel
theorem dX12_sends_62 : decode cX12_sends 62 = .ok (.aload_n 0, 1) := by decide +kernel
theorem dX12_sends_63 : decode cX12_sends 63 = .ok (.getfield 102, 3) := by decide +kernel
theorem dX12_sends_66 : decode cX12_sends 66 = .ok (.iload_n 1, 1) := by decide +kernel
theorem dX12_sends_67 : decode cX12_sends 67 = .ok (.aload_n 0, 1) := by decide +kernel
theorem dX12_sends_68 : decode cX12_sends 68 = .ok (.getfield 93, 3) := by decide +kernel
theorem dX12_sends_71 : decode cX12_sends 71 = .ok (.iload_n 1, 1) := by decide +kernel
theorem dX12_sends_72 : decode cX12_sends 72 = .ok (.iaload, 1) := by decide +kernel
theorem dX12_sends_73 : decode cX12_sends 73 = .ok (.iastore, 1) := by decide +kernel
theorem dX12_sends_74 : decode cX12_sends 74 = .ok (.iinc 1 1, 3) := by decide +kernel
theorem dX12_sends_77 : decode cX12_sends 77 = .ok (.goto (-23), 3) := by decide +kernel
theorem dX12_sends_80 : decode cX12_sends 80 = .ok (.aload_n 0, 1) := by decide +kernel
theorem dX12_sends_81 : decode cX12_sends 81 = .ok (.invokevirtual 225, 3) := by decide +kernel
theorem dX12_sends_84 : decode cX12_sends 84 = .ok (.ifCond .ne 4, 3) := by decide +kernel
theorem dX12_sends_87 : decode cX12_sends 87 = .ok (.return_, 1) := by decide +kernel
theorem dX12_sends_88 : decode cX12_sends 88 = .ok (.aload_n 0, 1) := by decide +kernel
theorem dX12_sends_89 : decode cX12_sends 89 = .ok (.getfield 75, 3) := by decide +kernel
theorem dX12_sends_92 : decode cX12_sends 92 = .ok (.aload_n 0, 1) := by decide +kernel
theorem dX12_sends_93 : decode cX12_sends 93 = .ok (.getfield 206, 3) := by decide +kernel
theorem dX12_sends_96 : decode cX12_sends 96 = .ok (.iconst 1, 1) := by decide +kernel
theorem dX12_sends_97 : decode cX12_sends 97 = .ok (.isub, 1) := by decide +kernel
theorem dX12_sends_98 : decode cX12_sends 98 = .ok (.iconst 0, 1) := by decide +kernel
theorem dX12_sends_99 : decode cX12_sends 99 = .ok (.bastore, 1) := by decide +kernel
theorem dX12_sends_100 : decode cX12_sends 100 = .ok (.aload_n 0, 1) := by decide +kernel
theorem dX12_sends_101 : decode cX12_sends 101 = .ok (.invokevirtual 229, 3) := by decide +kernel
theorem dX12_sends_104 : decode cX12_sends 104 = .ok (.goto (-104), 3) := by decide +kernel
theorem dX12_sends_107 : decode cX12_sends 107 = .ok (.aload_n 0, 1) := by decide +kernel
theorem dX12_sends_108 : decode cX12_sends 108 = .ok (.invokevirtual 232, 3) := by decide +kernel
theorem dX12_sends_111 : decode cX12_sends 111 = .ok (.ifCond .ne (-111), 3) := by decide +kernel
theorem dX12_sends_114 : decode cX12_sends 114 = .ok (.return_, 1) := by decide +kernel
theorem dX12_sends_115 : decode cX12_sends 115 = .ok (.return_, 1) := by decide +kernel
theorem dX12_firstAnswerGoes_0 : decode cX12_firstAnswerGoes 0 = .ok (.aload_n 0, 1) := by decide +kernel
theorem dX12_firstAnswerGoes_1 : decode cX12_firstAnswerGoes 1 = .ok (.dup, 1) := by decide +kernel
theorem dX12_firstAnswerGoes_2 : decode cX12_firstAnswerGoes 2 = .ok (.getfield 222, 3) := by decide +kernel
theorem dX12_firstAnswerGoes_5 : decode cX12_firstAnswerGoes 5 = .ok (.iconst 1, 1) := by decide +kernel
theorem dX12_firstAnswerGoes_6 : decode cX12_firstAnswerGoes 6 = .ok (.isub, 1) := by decide +kernel
theorem dX12_firstAnswerGoes_7 : decode cX12_firstAnswerGoes 7 = .ok (.putfield 222, 3) := by decide +kernel
theorem dX12_firstAnswerGoes_10 : decode cX12_firstAnswerGoes 10 = .ok (.iconst 0, 1) := by decide +kernel
theorem dX12_firstAnswerGoes_11 : decode cX12_firstAnswerGoes 11 = .ok (.istore_n 1, 1) := by decide +kernel
theorem dX12_firstAnswerGoes_12 : decode cX12_firstAnswerGoes 12 = .ok (.iload_n 1, 1) := by decide +kernel
theorem dX12_firstAnswerGoes_13 : decode cX12_firstAnswerGoes 13 = .ok (.aload_n 0, 1) := by decide +kernel
theorem dX12_firstAnswerGoes_14 : decode cX12_firstAnswerGoes 14 = .ok (.getfield 222, 3) := by decide +kernel
theorem dX12_firstAnswerGoes_17 : decode cX12_firstAnswerGoes 17 = .ok (.if_icmp .ge 67, 3) := by decide +kernel
theorem dX12_firstAnswerGoes_20 : decode cX12_firstAnswerGoes 20 = .ok (.aload_n 0, 1) := by decide +kernel
theorem dX12_firstAnswerGoes_21 : decode cX12_firstAnswerGoes 21 = .ok (.getfield 90, 3) := by decide +kernel
theorem dX12_firstAnswerGoes_24 : decode cX12_firstAnswerGoes 24 = .ok (.iload_n 1, 1) := by decide +kernel
theorem dX12_firstAnswerGoes_25 : decode cX12_firstAnswerGoes 25 = .ok (.aload_n 0, 1) := by decide +kernel
theorem dX12_firstAnswerGoes_26 : decode cX12_firstAnswerGoes 26 = .ok (.getfield 90, 3) := by decide +kernel
theorem dX12_firstAnswerGoes_29 : decode cX12_firstAnswerGoes 29 = .ok (.iload_n 1, 1) := by decide +kernel
theorem dX12_firstAnswerGoes_30 : decode cX12_firstAnswerGoes 30 = .ok (.iconst 1, 1) := by decide +kernel
theorem dX12_firstAnswerGoes_31 : decode cX12_firstAnswerGoes 31 = .ok (.iadd, 1) := by decide +kernel
theorem dX12_firstAnswerGoes_32 : decode cX12_firstAnswerGoes 32 = .ok (.iaload, 1) := by decide +kernel
theorem dX12_firstAnswerGoes_33 : decode cX12_firstAnswerGoes 33 = .ok (.iastore, 1) := by decide +kernel
theorem dX12_firstAnswerGoes_34 : decode cX12_firstAnswerGoes 34 = .ok (.iconst 0, 1) := by decide +kernel
theorem dX12_firstAnswerGoes_35 : decode cX12_firstAnswerGoes 35 = .ok (.istore_n 2, 1) := by decide +kernel
theorem dX12_firstAnswerGoes_36 : decode cX12_firstAnswerGoes 36 = .ok (.iload_n 2, 1) := by decide +kernel
theorem dX12_firstAnswerGoes_37 : decode cX12_firstAnswerGoes 37 = .ok (.aload_n 0, 1) := by decide +kernel
theorem dX12_firstAnswerGoes_38 : decode cX12_firstAnswerGoes 38 = .ok (.getfield 90, 3) := by decide +kernel
theorem dX12_firstAnswerGoes_41 : decode cX12_firstAnswerGoes 41 = .ok (.iload_n 1, 1) := by decide +kernel
theorem dX12_firstAnswerGoes_42 : decode cX12_firstAnswerGoes 42 = .ok (.iaload, 1) := by decide +kernel
theorem dX12_firstAnswerGoes_43 : decode cX12_firstAnswerGoes 43 = .ok (.if_icmp .ge 35, 3) := by decide +kernel
theorem dX12_firstAnswerGoes_46 : decode cX12_firstAnswerGoes 46 = .ok (.aload_n 0, 1) := by decide +kernel
theorem dX12_firstAnswerGoes_47 : decode cX12_firstAnswerGoes 47 = .ok (.getfield 93, 3) := by decide +kernel
theorem dX12_firstAnswerGoes_50 : decode cX12_firstAnswerGoes 50 = .ok (.sipush 249, 3) := by decide +kernel
theorem dX12_firstAnswerGoes_53 : decode cX12_firstAnswerGoes 53 = .ok (.iload_n 1, 1) := by decide +kernel
theorem dX12_firstAnswerGoes_54 : decode cX12_firstAnswerGoes 54 = .ok (.imul, 1) := by decide +kernel
theorem dX12_firstAnswerGoes_55 : decode cX12_firstAnswerGoes 55 = .ok (.iload_n 2, 1) := by decide +kernel
theorem dX12_firstAnswerGoes_56 : decode cX12_firstAnswerGoes 56 = .ok (.iadd, 1) := by decide +kernel
theorem dX12_firstAnswerGoes_57 : decode cX12_firstAnswerGoes 57 = .ok (.aload_n 0, 1) := by decide +kernel
theorem dX12_firstAnswerGoes_58 : decode cX12_firstAnswerGoes 58 = .ok (.getfield 93, 3) := by decide +kernel
theorem dX12_firstAnswerGoes_61 : decode cX12_firstAnswerGoes 61 = .ok (.sipush 249, 3) := by decide +kernel
theorem dX12_firstAnswerGoes_64 : decode cX12_firstAnswerGoes 64 = .ok (.iload_n 1, 1) := by decide +kernel
theorem dX12_firstAnswerGoes_65 : decode cX12_firstAnswerGoes 65 = .ok (.iconst 1, 1) := by decide +kernel
theorem dX12_firstAnswerGoes_66 : decode cX12_firstAnswerGoes 66 = .ok (.iadd, 1) := by decide +kernel
theorem dX12_firstAnswerGoes_67 : decode cX12_firstAnswerGoes 67 = .ok (.imul, 1) := by decide +kernel
theorem dX12_firstAnswerGoes_68 : decode cX12_firstAnswerGoes 68 = .ok (.iload_n 2, 1) := by decide +kernel
theorem dX12_firstAnswerGoes_69 : decode cX12_firstAnswerGoes 69 = .ok (.iadd, 1) := by decide +kernel
theorem dX12_firstAnswerGoes_70 : decode cX12_firstAnswerGoes 70 = .ok (.iaload, 1) := by decide +kernel
theorem dX12_firstAnswerGoes_71 : decode cX12_firstAnswerGoes 71 = .ok (.iastore, 1) := by decide +kernel
theorem dX12_firstAnswerGoes_72 : decode cX12_firstAnswerGoes 72 = .ok (.iinc 2 1, 3) := by decide +kernel
theorem dX12_firstAnswerGoes_75 : decode cX12_firstAnswerGoes 75 = .ok (.goto (-39), 3) := by decide +kernel
theorem dX12_firstAnswerGoes_78 : decode cX12_firstAnswerGoes 78 = .ok (.iinc 1 1, 3) := by decide +kernel
theorem dX12_firstAnswerGoes_81 : decode cX12_firstAnswerGoes 81 = .ok (.goto (-69), 3) := by decide +kernel
theorem dX12_firstAnswerGoes_84 : decode cX12_firstAnswerGoes 84 = .ok (.return_, 1) := by decide +kernel
theorem dX12_sendsEvent_0 : decode cX12_sendsEvent 0 = .ok (.aload_n 0, 1) := by decide +kernel
theorem dX12_sendsEvent_1 : decode cX12_sendsEvent 1 = .ok (.getfield 60, 3) := by decide +kernel
theorem dX12_sendsEvent_4 : decode cX12_sendsEvent 4 = .ok (.iconst 0, 1) := by decide +kernel
theorem dX12_sendsEvent_5 : decode cX12_sendsEvent 5 = .ok (.iaload, 1) := by decide +kernel
theorem dX12_sendsEvent_6 : decode cX12_sendsEvent 6 = .ok (.istore_n 1, 1) := by decide +kernel
theorem dX12_sendsEvent_7 : decode cX12_sendsEvent 7 = .ok (.aload_n 0, 1) := by decide +kernel
theorem dX12_sendsEvent_8 : decode cX12_sendsEvent 8 = .ok (.aload_n 0, 1) := by decide +kernel
theorem dX12_sendsEvent_9 : decode cX12_sendsEvent 9 = .ok (.getfield 22, 3) := by decide +kernel
theorem dX12_sendsEvent_12 : decode cX12_sendsEvent 12 = .ok (.iload_n 1, 1) := by decide +kernel
theorem dX12_sendsEvent_13 : decode cX12_sendsEvent 13 = .ok (.baload, 1) := by decide +kernel
theorem dX12_sendsEvent_14 : decode cX12_sendsEvent 14 = .ok (.ifCond .eq 15, 3) := by decide +kernel
theorem dX12_sendsEvent_17 : decode cX12_sendsEvent 17 = .ok (.aload_n 0, 1) := by decide +kernel
theorem dX12_sendsEvent_18 : decode cX12_sendsEvent 18 = .ok (.getfield 13, 3) := by decide +kernel
theorem dX12_sendsEvent_21 : decode cX12_sendsEvent 21 = .ok (.iload_n 1, 1) := by decide +kernel
theorem dX12_sendsEvent_22 : decode cX12_sendsEvent 22 = .ok (.iaload, 1) := by decide +kernel
theorem dX12_sendsEvent_23 : decode cX12_sendsEvent 23 = .ok (.invokestatic 235, 3) := by decide +kernel
theorem dX12_sendsEvent_26 : decode cX12_sendsEvent 26 = .ok (.goto 12, 3) := by decide +kernel
theorem dX12_sendsEvent_29 : decode cX12_sendsEvent 29 = .ok (.aload_n 0, 1) := by decide +kernel
theorem dX12_sendsEvent_30 : decode cX12_sendsEvent 30 = .ok (.getfield 13, 3) := by decide +kernel
theorem dX12_sendsEvent_33 : decode cX12_sendsEvent 33 = .ok (.iload_n 1, 1) := by decide +kernel
theorem dX12_sendsEvent_34 : decode cX12_sendsEvent 34 = .ok (.iaload, 1) := by decide +kernel
theorem dX12_sendsEvent_35 : decode cX12_sendsEvent 35 = .ok (.invokestatic 238, 3) := by decide +kernel
theorem dX12_sendsEvent_38 : decode cX12_sendsEvent 38 = .ok (.iconst 1, 1) := by decide +kernel
theorem dX12_sendsEvent_39 : decode cX12_sendsEvent 39 = .ok (.iconst 3, 1) := by decide +kernel
theorem dX12_sendsEvent_40 : decode cX12_sendsEvent 40 = .ok (.iconst 0, 1) := by decide +kernel
theorem dX12_sendsEvent_41 : decode cX12_sendsEvent 41 = .ok (.invokevirtual 241, 3) := by decide +kernel
theorem dX12_sendsEvent_44 : decode cX12_sendsEvent 44 = .ok (.aload_n 0, 1) := by decide +kernel
theorem dX12_sendsEvent_45 : decode cX12_sendsEvent 45 = .ok (.iload_n 1, 1) := by decide +kernel
theorem dX12_sendsEvent_46 : decode cX12_sendsEvent 46 = .ok (.aload_n 0, 1) := by decide +kernel
theorem dX12_sendsEvent_47 : decode cX12_sendsEvent 47 = .ok (.getfield 63, 3) := by decide +kernel
theorem dX12_sendsEvent_50 : decode cX12_sendsEvent 50 = .ok (.iconst 0, 1) := by decide +kernel
theorem dX12_sendsEvent_51 : decode cX12_sendsEvent 51 = .ok (.iaload, 1) := by decide +kernel
theorem dX12_sendsEvent_52 : decode cX12_sendsEvent 52 = .ok (.aload_n 0, 1) := by decide +kernel
theorem dX12_sendsEvent_53 : decode cX12_sendsEvent 53 = .ok (.getfield 66, 3) := by decide +kernel
theorem dX12_sendsEvent_56 : decode cX12_sendsEvent 56 = .ok (.iconst 0, 1) := by decide +kernel
theorem dX12_sendsEvent_57 : decode cX12_sendsEvent 57 = .ok (.iaload, 1) := by decide +kernel
theorem dX12_sendsEvent_58 : decode cX12_sendsEvent 58 = .ok (.invokevirtual 245, 3) := by decide +kernel
theorem dX12_sendsEvent_61 : decode cX12_sendsEvent 61 = .ok (.iconst 0, 1) := by decide +kernel
theorem dX12_sendsEvent_62 : decode cX12_sendsEvent 62 = .ok (.istore_n 2, 1) := by decide +kernel
theorem dX12_sendsEvent_63 : decode cX12_sendsEvent 63 = .ok (.iload_n 2, 1) := by decide +kernel
theorem dX12_sendsEvent_64 : decode cX12_sendsEvent 64 = .ok (.bipush 7, 2) := by decide +kernel
theorem dX12_sendsEvent_66 : decode cX12_sendsEvent 66 = .ok (.if_icmp .ge 28, 3) := by decide +kernel
theorem dX12_sendsEvent_69 : decode cX12_sendsEvent 69 = .ok (.aload_n 0, 1) := by decide +kernel
theorem dX12_sendsEvent_70 : decode cX12_sendsEvent 70 = .ok (.getfield 22, 3) := by decide +kernel
theorem dX12_sendsEvent_73 : decode cX12_sendsEvent 73 = .ok (.iload_n 1, 1) := by decide +kernel
theorem dX12_sendsEvent_74 : decode cX12_sendsEvent 74 = .ok (.baload, 1) := by decide +kernel
theorem dX12_sendsEvent_75 : decode cX12_sendsEvent 75 = .ok (.ifCond .eq 19, 3) := by decide +kernel
theorem dX12_sendsEvent_78 : decode cX12_sendsEvent 78 = .ok (.aload_n 0, 1) := by decide +kernel
theorem dX12_sendsEvent_79 : decode cX12_sendsEvent 79 = .ok (.aload_n 0, 1) := by decide +kernel
theorem dX12_sendsEvent_80 : decode cX12_sendsEvent 80 = .ok (.getfield 69, 3) := by decide +kernel
theorem dX12_sendsEvent_83 : decode cX12_sendsEvent 83 = .ok (.iload_n 2, 1) := by decide +kernel
theorem dX12_sendsEvent_84 : decode cX12_sendsEvent 84 = .ok (.iaload, 1) := by decide +kernel
theorem dX12_sendsEvent_85 : decode cX12_sendsEvent 85 = .ok (.invokevirtual 212, 3) := by decide +kernel
theorem dX12_sendsEvent_88 : decode cX12_sendsEvent 88 = .ok (.iinc 2 1, 3) := by decide +kernel
theorem dX12_sendsEvent_91 : decode cX12_sendsEvent 91 = .ok (.goto (-28), 3) := by decide +kernel
theorem dX12_sendsEvent_94 : decode cX12_sendsEvent 94 = .ok (.aload_n 0, 1) := by decide +kernel
theorem dX12_sendsEvent_95 : decode cX12_sendsEvent 95 = .ok (.invokevirtual 225, 3) := by decide +kernel
theorem dX12_sendsEvent_98 : decode cX12_sendsEvent 98 = .ok (.ifCond .ne 5, 3) := by decide +kernel
theorem dX12_sendsEvent_101 : decode cX12_sendsEvent 101 = .ok (.iconst 0, 1) := by decide +kernel
theorem dX12_sendsEvent_102 : decode cX12_sendsEvent 102 = .ok (.ireturn, 1) := by decide +kernel
theorem dX12_sendsEvent_103 : decode cX12_sendsEvent 103 = .ok (.aload_n 0, 1) := by decide +kernel
theorem dX12_sendsEvent_104 : decode cX12_sendsEvent 104 = .ok (.getfield 206, 3) := by decide +kernel
theorem dX12_sendsEvent_107 : decode cX12_sendsEvent 107 = .ok (.iconst 1, 1) := by decide +kernel
theorem dX12_sendsEvent_108 : decode cX12_sendsEvent 108 = .ok (.isub, 1) := by decide +kernel
theorem dX12_sendsEvent_109 : decode cX12_sendsEvent 109 = .ok (.istore_n 2, 1) := by decide +kernel
theorem dX12_sendsEvent_110 : decode cX12_sendsEvent 110 = .ok (.aload_n 0, 1) := by decide +kernel
theorem dX12_sendsEvent_111 : decode cX12_sendsEvent 111 = .ok (.getfield 75, 3) := by decide +kernel
theorem dX12_sendsEvent_114 : decode cX12_sendsEvent 114 = .ok (.iload_n 2, 1) := by decide +kernel
theorem dX12_sendsEvent_115 : decode cX12_sendsEvent 115 = .ok (.iconst 1, 1) := by decide +kernel
theorem dX12_sendsEvent_116 : decode cX12_sendsEvent 116 = .ok (.bastore, 1) := by decide +kernel
theorem dX12_sendsEvent_117 : decode cX12_sendsEvent 117 = .ok (.aload_n 0, 1) := by decide +kernel
theorem dX12_sendsEvent_118 : decode cX12_sendsEvent 118 = .ok (.getfield 78, 3) := by decide +kernel
theorem dX12_sendsEvent_121 : decode cX12_sendsEvent 121 = .ok (.iload_n 2, 1) := by decide +kernel
theorem dX12_sendsEvent_122 : decode cX12_sendsEvent 122 = .ok (.iload_n 1, 1) := by decide +kernel
theorem dX12_sendsEvent_123 : decode cX12_sendsEvent 123 = .ok (.iastore, 1) := by decide +kernel
theorem dX12_sendsEvent_124 : decode cX12_sendsEvent 124 = .ok (.aload_n 0, 1) := by decide +kernel
theorem dX12_sendsEvent_125 : decode cX12_sendsEvent 125 = .ok (.getfield 81, 3) := by decide +kernel
theorem dX12_sendsEvent_128 : decode cX12_sendsEvent 128 = .ok (.iload_n 2, 1) := by decide +kernel
theorem dX12_sendsEvent_129 : decode cX12_sendsEvent 129 = .ok (.aload_n 0, 1) := by decide +kernel
theorem dX12_sendsEvent_130 : decode cX12_sendsEvent 130 = .ok (.getfield 63, 3) := by decide +kernel
theorem dX12_sendsEvent_133 : decode cX12_sendsEvent 133 = .ok (.iconst 0, 1) := by decide +kernel
theorem dX12_sendsEvent_134 : decode cX12_sendsEvent 134 = .ok (.iaload, 1) := by decide +kernel
theorem dX12_sendsEvent_135 : decode cX12_sendsEvent 135 = .ok (.iastore, 1) := by decide +kernel
theorem dX12_sendsEvent_136 : decode cX12_sendsEvent 136 = .ok (.aload_n 0, 1) := by decide +kernel
theorem dX12_sendsEvent_137 : decode cX12_sendsEvent 137 = .ok (.getfield 84, 3) := by decide +kernel
theorem dX12_sendsEvent_140 : decode cX12_sendsEvent 140 = .ok (.iload_n 2, 1) := by decide +kernel
theorem dX12_sendsEvent_141 : decode cX12_sendsEvent 141 = .ok (.aload_n 0, 1) := by decide +kernel
theorem dX12_sendsEvent_142 : decode cX12_sendsEvent 142 = .ok (.getfield 66, 3) := by decide +kernel
theorem dX12_sendsEvent_145 : decode cX12_sendsEvent 145 = .ok (.iconst 0, 1) := by decide +kernel
theorem dX12_sendsEvent_146 : decode cX12_sendsEvent 146 = .ok (.iaload, 1) := by decide +kernel
theorem dX12_sendsEvent_147 : decode cX12_sendsEvent 147 = .ok (.iastore, 1) := by decide +kernel
theorem dX12_sendsEvent_148 : decode cX12_sendsEvent 148 = .ok (.iconst 0, 1) := by decide +kernel
theorem dX12_sendsEvent_149 : decode cX12_sendsEvent 149 = .ok (.istore_n 3, 1) := by decide +kernel
theorem dX12_sendsEvent_150 : decode cX12_sendsEvent 150 = .ok (.iload_n 3, 1) := by decide +kernel
theorem dX12_sendsEvent_151 : decode cX12_sendsEvent 151 = .ok (.bipush 7, 2) := by decide +kernel
theorem dX12_sendsEvent_153 : decode cX12_sendsEvent 153 = .ok (.if_icmp .ge 26, 3) := by decide +kernel
theorem dX12_sendsEvent_156 : decode cX12_sendsEvent 156 = .ok (.aload_n 0, 1) := by decide +kernel
theorem dX12_sendsEvent_157 : decode cX12_sendsEvent 157 = .ok (.getfield 87, 3) := by decide +kernel
theorem dX12_sendsEvent_160 : decode cX12_sendsEvent 160 = .ok (.bipush 7, 2) := by decide +kernel
theorem dX12_sendsEvent_162 : decode cX12_sendsEvent 162 = .ok (.iload_n 2, 1) := by decide +kernel
theorem dX12_sendsEvent_163 : decode cX12_sendsEvent 163 = .ok (.imul, 1) := by decide +kernel
theorem dX12_sendsEvent_164 : decode cX12_sendsEvent 164 = .ok (.iload_n 3, 1) := by decide +kernel
theorem dX12_sendsEvent_165 : decode cX12_sendsEvent 165 = .ok (.iadd, 1) := by decide +kernel
theorem dX12_sendsEvent_166 : decode cX12_sendsEvent 166 = .ok (.aload_n 0, 1) := by decide +kernel
theorem dX12_sendsEvent_167 : decode cX12_sendsEvent 167 = .ok (.getfield 69, 3) := by decide +kernel
theorem dX12_sendsEvent_170 : decode cX12_sendsEvent 170 = .ok (.iload_n 3, 1) := by decide +kernel
theorem dX12_sendsEvent_171 : decode cX12_sendsEvent 171 = .ok (.iaload, 1) := by decide +kernel
theorem dX12_sendsEvent_172 : decode cX12_sendsEvent 172 = .ok (.iastore, 1) := by decide +kernel
theorem dX12_sendsEvent_173 : decode cX12_sendsEvent 173 = .ok (.iinc 3 1, 3) := by decide +kernel
theorem dX12_sendsEvent_176 : decode cX12_sendsEvent 176 = .ok (.goto (-26), 3) := by decide +kernel
theorem dX12_sendsEvent_179 : decode cX12_sendsEvent 179 = .ok (.aload_n 0, 1) := by decide +kernel
theorem dX12_sendsEvent_180 : decode cX12_sendsEvent 180 = .ok (.dup, 1) := by decide +kernel
theorem dX12_sendsEvent_181 : decode cX12_sendsEvent 181 = .ok (.getfield 158, 3) := by decide +kernel
theorem dX12_sendsEvent_184 : decode cX12_sendsEvent 184 = .ok (.iconst 1, 1) := by decide +kernel
theorem dX12_sendsEvent_185 : decode cX12_sendsEvent 185 = .ok (.isub, 1) := by decide +kernel
theorem dX12_sendsEvent_186 : decode cX12_sendsEvent 186 = .ok (.putfield 158, 3) := by decide +kernel
theorem dX12_sendsEvent_189 : decode cX12_sendsEvent 189 = .ok (.iconst 0, 1) := by decide +kernel
theorem dX12_sendsEvent_190 : decode cX12_sendsEvent 190 = .ok (.istore_n 3, 1) := by decide +kernel
theorem dX12_sendsEvent_191 : decode cX12_sendsEvent 191 = .ok (.iload_n 3, 1) := by decide +kernel
theorem dX12_sendsEvent_192 : decode cX12_sendsEvent 192 = .ok (.aload_n 0, 1) := by decide +kernel
theorem dX12_sendsEvent_193 : decode cX12_sendsEvent 193 = .ok (.getfield 158, 3) := by decide +kernel
theorem dX12_sendsEvent_196 : decode cX12_sendsEvent 196 = .ok (.if_icmp .ge 17, 3) := by decide +kernel
theorem dX12_sendsEvent_199 : decode cX12_sendsEvent 199 = .ok (.aload_n 0, 1) := by decide +kernel
theorem dX12_sendsEvent_200 : decode cX12_sendsEvent 200 = .ok (.iload_n 3, 1) := by decide +kernel
theorem dX12_sendsEvent_201 : decode cX12_sendsEvent 201 = .ok (.iconst 1, 1) := by decide +kernel
theorem dX12_sendsEvent_202 : decode cX12_sendsEvent 202 = .ok (.iadd, 1) := by decide +kernel
theorem dX12_sendsEvent_203 : decode cX12_sendsEvent 203 = .ok (.iload_n 3, 1) := by decide +kernel
theorem dX12_sendsEvent_204 : decode cX12_sendsEvent 204 = .ok (.invokevirtual 249, 3) := by decide +kernel
theorem dX12_sendsEvent_207 : decode cX12_sendsEvent 207 = .ok (.iinc 3 1, 3) := by decide +kernel
theorem dX12_sendsEvent_210 : decode cX12_sendsEvent 210 = .ok (.goto (-19), 3) := by decide +kernel
theorem dX12_sendsEvent_213 : decode cX12_sendsEvent 213 = .ok (.iconst 1, 1) := by decide +kernel
theorem dX12_sendsEvent_214 : decode cX12_sendsEvent 214 = .ok (.ireturn, 1) := by decide +kernel
theorem dX12_moveEvent_0 : decode cX12_moveEvent 0 = .ok (.aload_n 0, 1) := by decide +kernel
theorem dX12_moveEvent_1 : decode cX12_moveEvent 1 = .ok (.getfield 60, 3) := by decide +kernel
theorem dX12_moveEvent_4 : decode cX12_moveEvent 4 = .ok (.iload_n 2, 1) := by decide +kernel
theorem dX12_moveEvent_5 : decode cX12_moveEvent 5 = .ok (.aload_n 0, 1) := by decide +kernel
theorem dX12_moveEvent_6 : decode cX12_moveEvent 6 = .ok (.getfield 60, 3) := by decide +kernel
theorem dX12_moveEvent_9 : decode cX12_moveEvent 9 = .ok (.iload_n 1, 1) := by decide +kernel
theorem dX12_moveEvent_10 : decode cX12_moveEvent 10 = .ok (.iaload, 1) := by decide +kernel
theorem dX12_moveEvent_11 : decode cX12_moveEvent 11 = .ok (.iastore, 1) := by decide +kernel
theorem dX12_moveEvent_12 : decode cX12_moveEvent 12 = .ok (.aload_n 0, 1) := by decide +kernel
theorem dX12_moveEvent_13 : decode cX12_moveEvent 13 = .ok (.getfield 63, 3) := by decide +kernel
theorem dX12_moveEvent_16 : decode cX12_moveEvent 16 = .ok (.iload_n 2, 1) := by decide +kernel
theorem dX12_moveEvent_17 : decode cX12_moveEvent 17 = .ok (.aload_n 0, 1) := by decide +kernel
theorem dX12_moveEvent_18 : decode cX12_moveEvent 18 = .ok (.getfield 63, 3) := by decide +kernel
theorem dX12_moveEvent_21 : decode cX12_moveEvent 21 = .ok (.iload_n 1, 1) := by decide +kernel
theorem dX12_moveEvent_22 : decode cX12_moveEvent 22 = .ok (.iaload, 1) := by decide +kernel
theorem dX12_moveEvent_23 : decode cX12_moveEvent 23 = .ok (.iastore, 1) := by decide +kernel
theorem dX12_moveEvent_24 : decode cX12_moveEvent 24 = .ok (.aload_n 0, 1) := by decide +kernel
theorem dX12_moveEvent_25 : decode cX12_moveEvent 25 = .ok (.getfield 66, 3) := by decide +kernel
theorem dX12_moveEvent_28 : decode cX12_moveEvent 28 = .ok (.iload_n 2, 1) := by decide +kernel
theorem dX12_moveEvent_29 : decode cX12_moveEvent 29 = .ok (.aload_n 0, 1) := by decide +kernel
theorem dX12_moveEvent_30 : decode cX12_moveEvent 30 = .ok (.getfield 66, 3) := by decide +kernel
theorem dX12_moveEvent_33 : decode cX12_moveEvent 33 = .ok (.iload_n 1, 1) := by decide +kernel
theorem dX12_moveEvent_34 : decode cX12_moveEvent 34 = .ok (.iaload, 1) := by decide +kernel
theorem dX12_moveEvent_35 : decode cX12_moveEvent 35 = .ok (.iastore, 1) := by decide +kernel
theorem dX12_moveEvent_36 : decode cX12_moveEvent 36 = .ok (.iconst 0, 1) := by decide +kernel
theorem dX12_moveEvent_37 : decode cX12_moveEvent 37 = .ok (.istore_n 3, 1) := by decide +kernel
theorem dX12_moveEvent_38 : decode cX12_moveEvent 38 = .ok (.iload_n 3, 1) := by decide +kernel
theorem dX12_moveEvent_39 : decode cX12_moveEvent 39 = .ok (.bipush 7, 2) := by decide +kernel
theorem dX12_moveEvent_41 : decode cX12_moveEvent 41 = .ok (.if_icmp .ge 31, 3) := by decide +kernel
theorem dX12_moveEvent_44 : decode cX12_moveEvent 44 = .ok (.aload_n 0, 1) := by decide +kernel
theorem dX12_moveEvent_45 : decode cX12_moveEvent 45 = .ok (.getfield 69, 3) := by decide +kernel
theorem dX12_moveEvent_48 : decode cX12_moveEvent 48 = .ok (.bipush 7, 2) := by decide +kernel
theorem dX12_moveEvent_50 : decode cX12_moveEvent 50 = .ok (.iload_n 2, 1) := by decide +kernel
theorem dX12_moveEvent_51 : decode cX12_moveEvent 51 = .ok (.imul, 1) := by decide +kernel
theorem dX12_moveEvent_52 : decode cX12_moveEvent 52 = .ok (.iload_n 3, 1) := by decide +kernel
theorem dX12_moveEvent_53 : decode cX12_moveEvent 53 = .ok (.iadd, 1) := by decide +kernel
theorem dX12_moveEvent_54 : decode cX12_moveEvent 54 = .ok (.aload_n 0, 1) := by decide +kernel
theorem dX12_moveEvent_55 : decode cX12_moveEvent 55 = .ok (.getfield 69, 3) := by decide +kernel
theorem dX12_moveEvent_58 : decode cX12_moveEvent 58 = .ok (.bipush 7, 2) := by decide +kernel
theorem dX12_moveEvent_60 : decode cX12_moveEvent 60 = .ok (.iload_n 1, 1) := by decide +kernel
theorem dX12_moveEvent_61 : decode cX12_moveEvent 61 = .ok (.imul, 1) := by decide +kernel
theorem dX12_moveEvent_62 : decode cX12_moveEvent 62 = .ok (.iload_n 3, 1) := by decide +kernel
theorem dX12_moveEvent_63 : decode cX12_moveEvent 63 = .ok (.iadd, 1) := by decide +kernel
theorem dX12_moveEvent_64 : decode cX12_moveEvent 64 = .ok (.iaload, 1) := by decide +kernel
theorem dX12_moveEvent_65 : decode cX12_moveEvent 65 = .ok (.iastore, 1) := by decide +kernel
theorem dX12_moveEvent_66 : decode cX12_moveEvent 66 = .ok (.iinc 3 1, 3) := by decide +kernel
theorem dX12_moveEvent_69 : decode cX12_moveEvent 69 = .ok (.goto (-31), 3) := by decide +kernel
theorem dX12_moveEvent_72 : decode cX12_moveEvent 72 = .ok (.return_, 1) := by decide +kernel
theorem dX12_closes_0 : decode cX12_closes 0 = .ok (.aload_n 0, 1) := by decide +kernel
theorem dX12_closes_1 : decode cX12_closes 1 = .ok (.iconst 0, 1) := by decide +kernel
theorem dX12_closes_2 : decode cX12_closes 2 = .ok (.putfield 125, 3) := by decide +kernel
theorem dX12_closes_5 : decode cX12_closes 5 = .ok (.aload_n 0, 1) := by decide +kernel
theorem dX12_closes_6 : decode cX12_closes 6 = .ok (.iload_n 1, 1) := by decide +kernel
theorem dX12_closes_7 : decode cX12_closes 7 = .ok (.putfield 252, 3) := by decide +kernel
theorem dX12_closes_10 : decode cX12_closes 10 = .ok (.aload_n 0, 1) := by decide +kernel
theorem dX12_closes_11 : decode cX12_closes 11 = .ok (.iconst 0, 1) := by decide +kernel
theorem dX12_closes_12 : decode cX12_closes 12 = .ok (.putfield 222, 3) := by decide +kernel
theorem dX12_closes_15 : decode cX12_closes 15 = .ok (.aload_n 0, 1) := by decide +kernel
theorem dX12_closes_16 : decode cX12_closes 16 = .ok (.iconst (-1), 1) := by decide +kernel
theorem dX12_closes_17 : decode cX12_closes 17 = .ok (.putfield 50, 3) := by decide +kernel
theorem dX12_closes_20 : decode cX12_closes 20 = .ok (.aload_n 0, 1) := by decide +kernel
theorem dX12_closes_21 : decode cX12_closes 21 = .ok (.iconst 0, 1) := by decide +kernel
theorem dX12_closes_22 : decode cX12_closes 22 = .ok (.putfield 255, 3) := by decide +kernel
theorem dX12_closes_25 : decode cX12_closes 25 = .ok (.aload_n 0, 1) := by decide +kernel
theorem dX12_closes_26 : decode cX12_closes 26 = .ok (.getfield 206, 3) := by decide +kernel
theorem dX12_closes_29 : decode cX12_closes 29 = .ok (.iconst 1, 1) := by decide +kernel
theorem dX12_closes_30 : decode cX12_closes 30 = .ok (.isub, 1) := by decide +kernel
theorem dX12_closes_31 : decode cX12_closes 31 = .ok (.istore_n 2, 1) := by decide +kernel
theorem dX12_closes_32 : decode cX12_closes 32 = .ok (.iload_n 2, 1) := by decide +kernel
theorem dX12_closes_33 : decode cX12_closes 33 = .ok (.ifCond .lt 120, 3) := by decide +kernel
theorem dX12_closes_36 : decode cX12_closes 36 = .ok (.aload_n 0, 1) := by decide +kernel
theorem dX12_closes_37 : decode cX12_closes 37 = .ok (.getfield 75, 3) := by decide +kernel
theorem dX12_closes_40 : decode cX12_closes 40 = .ok (.iload_n 2, 1) := by decide +kernel
theorem dX12_closes_41 : decode cX12_closes 41 = .ok (.baload, 1) := by decide +kernel
theorem dX12_closes_42 : decode cX12_closes 42 = .ok (.ifCond .eq 105, 3) := by decide +kernel
theorem dX12_closes_45 : decode cX12_closes 45 = .ok (.aload_n 0, 1) := by decide +kernel
theorem dX12_closes_46 : decode cX12_closes 46 = .ok (.getfield 158, 3) := by decide +kernel
theorem dX12_closes_49 : decode cX12_closes 49 = .ok (.iconst 1, 1) := by decide +kernel
theorem dX12_closes_50 : decode cX12_closes 50 = .ok (.isub, 1) := by decide +kernel
theorem dX12_closes_51 : decode cX12_closes 51 = .ok (.istore_n 3, 1) := by decide +kernel
theorem dX12_closes_52 : decode cX12_closes 52 = .ok (.iload_n 3, 1) := by decide +kernel
theorem dX12_closes_53 : decode cX12_closes 53 = .ok (.ifCond .lt 17, 3) := by decide +kernel
theorem dX12_closes_56 : decode cX12_closes 56 = .ok (.aload_n 0, 1) := by decide +kernel
theorem dX12_closes_57 : decode cX12_closes 57 = .ok (.iload_n 3, 1) := by decide +kernel
theorem dX12_closes_58 : decode cX12_closes 58 = .ok (.iload_n 3, 1) := by decide +kernel
theorem dX12_closes_59 : decode cX12_closes 59 = .ok (.iconst 1, 1) := by decide +kernel
theorem dX12_closes_60 : decode cX12_closes 60 = .ok (.iadd, 1) := by decide +kernel
theorem dX12_closes_61 : decode cX12_closes 61 = .ok (.invokevirtual 249, 3) := by decide +kernel
theorem dX12_closes_64 : decode cX12_closes 64 = .ok (.iinc 3 (-1), 3) := by decide +kernel
theorem dX12_closes_67 : decode cX12_closes 67 = .ok (.goto (-15), 3) := by decide +kernel
theorem dX12_closes_70 : decode cX12_closes 70 = .ok (.aload_n 0, 1) := by decide +kernel
theorem dX12_closes_71 : decode cX12_closes 71 = .ok (.dup, 1) := by decide +kernel
theorem dX12_closes_72 : decode cX12_closes 72 = .ok (.getfield 158, 3) := by decide +kernel
theorem dX12_closes_75 : decode cX12_closes 75 = .ok (.iconst 1, 1) := by decide +kernel
theorem dX12_closes_76 : decode cX12_closes 76 = .ok (.iadd, 1) := by decide +kernel
theorem dX12_closes_77 : decode cX12_closes 77 = .ok (.putfield 158, 3) := by decide +kernel
theorem dX12_closes_80 : decode cX12_closes 80 = .ok (.aload_n 0, 1) := by decide +kernel
theorem dX12_closes_81 : decode cX12_closes 81 = .ok (.getfield 60, 3) := by decide +kernel
theorem dX12_closes_84 : decode cX12_closes 84 = .ok (.iconst 0, 1) := by decide +kernel
theorem dX12_closes_85 : decode cX12_closes 85 = .ok (.aload_n 0, 1) := by decide +kernel
theorem dX12_closes_86 : decode cX12_closes 86 = .ok (.getfield 78, 3) := by decide +kernel
theorem dX12_closes_89 : decode cX12_closes 89 = .ok (.iload_n 2, 1) := by decide +kernel
theorem dX12_closes_90 : decode cX12_closes 90 = .ok (.iaload, 1) := by decide +kernel
theorem dX12_closes_91 : decode cX12_closes 91 = .ok (.iastore, 1) := by decide +kernel
theorem dX12_closes_92 : decode cX12_closes 92 = .ok (.aload_n 0, 1) := by decide +kernel
theorem dX12_closes_93 : decode cX12_closes 93 = .ok (.getfield 63, 3) := by decide +kernel
theorem dX12_closes_96 : decode cX12_closes 96 = .ok (.iconst 0, 1) := by decide +kernel
theorem dX12_closes_97 : decode cX12_closes 97 = .ok (.aload_n 0, 1) := by decide +kernel
theorem dX12_closes_98 : decode cX12_closes 98 = .ok (.getfield 81, 3) := by decide +kernel
theorem dX12_closes_101 : decode cX12_closes 101 = .ok (.iload_n 2, 1) := by decide +kernel
theorem dX12_closes_102 : decode cX12_closes 102 = .ok (.iaload, 1) := by decide +kernel
theorem dX12_closes_103 : decode cX12_closes 103 = .ok (.iastore, 1) := by decide +kernel
theorem dX12_closes_104 : decode cX12_closes 104 = .ok (.aload_n 0, 1) := by decide +kernel
theorem dX12_closes_105 : decode cX12_closes 105 = .ok (.getfield 66, 3) := by decide +kernel
theorem dX12_closes_108 : decode cX12_closes 108 = .ok (.iconst 0, 1) := by decide +kernel
theorem dX12_closes_109 : decode cX12_closes 109 = .ok (.aload_n 0, 1) := by decide +kernel
theorem dX12_closes_110 : decode cX12_closes 110 = .ok (.getfield 84, 3) := by decide +kernel
theorem dX12_closes_113 : decode cX12_closes 113 = .ok (.iload_n 2, 1) := by decide +kernel
theorem dX12_closes_114 : decode cX12_closes 114 = .ok (.iaload, 1) := by decide +kernel
theorem dX12_closes_115 : decode cX12_closes 115 = .ok (.iastore, 1) := by decide +kernel
theorem dX12_closes_116 : decode cX12_closes 116 = .ok (.iconst 0, 1) := by decide +kernel
theorem dX12_closes_117 : decode cX12_closes 117 = .ok (.istore_n 3, 1) := by decide +kernel
theorem dX12_closes_118 : decode cX12_closes 118 = .ok (.iload_n 3, 1) := by decide +kernel
theorem dX12_closes_119 : decode cX12_closes 119 = .ok (.bipush 7, 2) := by decide +kernel
theorem dX12_closes_121 : decode cX12_closes 121 = .ok (.if_icmp .ge 26, 3) := by decide +kernel
theorem dX12_closes_124 : decode cX12_closes 124 = .ok (.aload_n 0, 1) := by decide +kernel
theorem dX12_closes_125 : decode cX12_closes 125 = .ok (.getfield 69, 3) := by decide +kernel
theorem dX12_closes_128 : decode cX12_closes 128 = .ok (.iload_n 3, 1) := by decide +kernel
theorem dX12_closes_129 : decode cX12_closes 129 = .ok (.aload_n 0, 1) := by decide +kernel
theorem dX12_closes_130 : decode cX12_closes 130 = .ok (.getfield 87, 3) := by decide +kernel
theorem dX12_closes_133 : decode cX12_closes 133 = .ok (.bipush 7, 2) := by decide +kernel
theorem dX12_closes_135 : decode cX12_closes 135 = .ok (.iload_n 2, 1) := by decide +kernel
theorem dX12_closes_136 : decode cX12_closes 136 = .ok (.imul, 1) := by decide +kernel
theorem dX12_closes_137 : decode cX12_closes 137 = .ok (.iload_n 3, 1) := by decide +kernel
theorem dX12_closes_138 : decode cX12_closes 138 = .ok (.iadd, 1) := by decide +kernel
theorem dX12_closes_139 : decode cX12_closes 139 = .ok (.iaload, 1) := by decide +kernel
theorem dX12_closes_140 : decode cX12_closes 140 = .ok (.iastore, 1) := by decide +kernel
theorem dX12_closes_141 : decode cX12_closes 141 = .ok (.iinc 3 1, 3) := by decide +kernel
theorem dX12_closes_144 : decode cX12_closes 144 = .ok (.goto (-26), 3) := by decide +kernel
theorem dX12_closes_147 : decode cX12_closes 147 = .ok (.iinc 2 (-1), 3) := by decide +kernel
theorem dX12_closes_150 : decode cX12_closes 150 = .ok (.goto (-118), 3) := by decide +kernel
theorem dX12_closes_153 : decode cX12_closes 153 = .ok (.aload_n 0, 1) := by decide +kernel
theorem dX12_closes_154 : decode cX12_closes 154 = .ok (.iconst 0, 1) := by decide +kernel
theorem dX12_closes_155 : decode cX12_closes 155 = .ok (.putfield 206, 3) := by decide +kernel
theorem dX12_closes_158 : decode cX12_closes 158 = .ok (.aload_n 0, 1) := by decide +kernel
theorem dX12_closes_159 : decode cX12_closes 159 = .ok (.aload_n 0, 1) := by decide +kernel
theorem dX12_closes_160 : decode cX12_closes 160 = .ok (.getfield 182, 3) := by decide +kernel
theorem dX12_closes_163 : decode cX12_closes 163 = .ok (.putfield 197, 3) := by decide +kernel
theorem dX12_closes_166 : decode cX12_closes 166 = .ok (.aload_n 0, 1) := by decide +kernel
theorem dX12_closes_167 : decode cX12_closes 167 = .ok (.iconst 0, 1) := by decide +kernel
theorem dX12_closes_168 : decode cX12_closes 168 = .ok (.putfield 258, 3) := by decide +kernel
theorem dX12_closes_171 : decode cX12_closes 171 = .ok (.return_, 1) := by decide +kernel
theorem dX12_open_0 : decode cX12_open 0 = .ok (.aload_n 0, 1) := by decide +kernel
theorem dX12_open_1 : decode cX12_open 1 = .ok (.getfield 125, 3) := by decide +kernel
theorem dX12_open_4 : decode cX12_open 4 = .ok (.ifCond .eq 6, 3) := by decide +kernel
theorem dX12_open_7 : decode cX12_open 7 = .ok (.bipush (-2), 2) := by decide +kernel
theorem dX12_open_9 : decode cX12_open 9 = .ok (.ireturn, 1) := by decide +kernel
theorem dX12_open_10 : decode cX12_open 10 = .ok (.aload_n 0, 1) := by decide +kernel
theorem dX12_open_11 : decode cX12_open 11 = .ok (.iconst 1, 1) := by decide +kernel
theorem dX12_open_12 : decode cX12_open 12 = .ok (.putfield 125, 3) := by decide +kernel
theorem dX12_open_15 : decode cX12_open 15 = .ok (.aload_n 0, 1) := by decide +kernel
theorem dX12_open_16 : decode cX12_open 16 = .ok (.iconst 0, 1) := by decide +kernel
theorem dX12_open_17 : decode cX12_open 17 = .ok (.putfield 172, 3) := by decide +kernel
theorem dX12_open_20 : decode cX12_open 20 = .ok (.aload_n 0, 1) := by decide +kernel
theorem dX12_open_21 : decode cX12_open 21 = .ok (.iconst 0, 1) := by decide +kernel
theorem dX12_open_22 : decode cX12_open 22 = .ok (.putfield 200, 3) := by decide +kernel
theorem dX12_open_25 : decode cX12_open 25 = .ok (.aload_n 0, 1) := by decide +kernel
theorem dX12_open_26 : decode cX12_open 26 = .ok (.iconst 0, 1) := by decide +kernel
theorem dX12_open_27 : decode cX12_open 27 = .ok (.putfield 182, 3) := by decide +kernel
theorem dX12_open_30 : decode cX12_open 30 = .ok (.aload_n 0, 1) := by decide +kernel
theorem dX12_open_31 : decode cX12_open 31 = .ok (.iconst 0, 1) := by decide +kernel
theorem dX12_open_32 : decode cX12_open 32 = .ok (.putfield 197, 3) := by decide +kernel
theorem dX12_open_35 : decode cX12_open 35 = .ok (.aload_n 0, 1) := by decide +kernel
theorem dX12_open_36 : decode cX12_open 36 = .ok (.iconst 0, 1) := by decide +kernel
theorem dX12_open_37 : decode cX12_open 37 = .ok (.putfield 255, 3) := by decide +kernel
theorem dX12_open_40 : decode cX12_open 40 = .ok (.aload_n 0, 1) := by decide +kernel
theorem dX12_open_41 : decode cX12_open 41 = .ok (.aload_n 0, 1) := by decide +kernel
theorem dX12_open_42 : decode cX12_open 42 = .ok (.getfield 209, 3) := by decide +kernel
theorem dX12_open_45 : decode cX12_open 45 = .ok (.putfield 261, 3) := by decide +kernel
theorem dX12_open_48 : decode cX12_open 48 = .ok (.iconst 1, 1) := by decide +kernel
theorem dX12_open_49 : decode cX12_open 49 = .ok (.ireturn, 1) := by decide +kernel
theorem dX12_close_0 : decode cX12_close 0 = .ok (.aload_n 0, 1) := by decide +kernel
theorem dX12_close_1 : decode cX12_close 1 = .ok (.getfield 125, 3) := by decide +kernel
theorem dX12_close_4 : decode cX12_close 4 = .ok (.ifCond .ne 6, 3) := by decide +kernel
theorem dX12_close_7 : decode cX12_close 7 = .ok (.bipush (-2), 2) := by decide +kernel
theorem dX12_close_9 : decode cX12_close 9 = .ok (.ireturn, 1) := by decide +kernel
theorem dX12_close_10 : decode cX12_close 10 = .ok (.aload_n 0, 1) := by decide +kernel
theorem dX12_close_11 : decode cX12_close 11 = .ok (.iconst 1, 1) := by decide +kernel
theorem dX12_close_12 : decode cX12_close 12 = .ok (.invokevirtual 175, 3) := by decide +kernel
theorem dX12_close_15 : decode cX12_close 15 = .ok (.iconst 1, 1) := by decide +kernel
theorem dX12_close_16 : decode cX12_close 16 = .ok (.ireturn, 1) := by decide +kernel
theorem dX12_come_0 : decode cX12_come 0 = .ok (.iload_n 1, 1) := by decide +kernel
theorem dX12_come_1 : decode cX12_come 1 = .ok (.i2l, 1) := by decide +kernel
theorem dX12_come_2 : decode cX12_come 2 = .ok (.lconst 1, 1) := by decide +kernel
theorem dX12_come_3 : decode cX12_come 3 = .ok (.ldc2_w 264, 3) := by decide +kernel
theorem dX12_come_6 : decode cX12_come 6 = .ok (.invokestatic 111, 3) := by decide +kernel
theorem dX12_come_9 : decode cX12_come 9 = .ok (.ifCond .ne 5, 3) := by decide +kernel
theorem dX12_come_12 : decode cX12_come 12 = .ok (.iconst (-1), 1) := by decide +kernel
theorem dX12_come_13 : decode cX12_come 13 = .ok (.ireturn, 1) := by decide +kernel
theorem dX12_come_14 : decode cX12_come 14 = .ok (.aload_n 0, 1) := by decide +kernel
theorem dX12_come_15 : decode cX12_come 15 = .ok (.getfield 125, 3) := by decide +kernel
theorem dX12_come_18 : decode cX12_come 18 = .ok (.ifCond .ne 6, 3) := by decide +kernel
theorem dX12_come_21 : decode cX12_come 21 = .ok (.bipush (-2), 2) := by decide +kernel
theorem dX12_come_23 : decode cX12_come 23 = .ok (.ireturn, 1) := by decide +kernel
theorem dX12_come_24 : decode cX12_come 24 = .ok (.iconst 0, 1) := by decide +kernel
theorem dX12_come_25 : decode cX12_come 25 = .ok (.istore 4, 2) := by decide +kernel
theorem dX12_come_27 : decode cX12_come 27 = .ok (.iload_n 1, 1) := by decide +kernel
theorem dX12_come_28 : decode cX12_come 28 = .ok (.iconst 1, 1) := by decide +kernel
theorem dX12_come_29 : decode cX12_come 29 = .ok (.isub, 1) := by decide +kernel
theorem dX12_come_30 : decode cX12_come 30 = .ok (.istore 5, 2) := by decide +kernel
theorem dX12_come_32 : decode cX12_come 32 = .ok (.iload 5, 2) := by decide +kernel
theorem dX12_come_34 : decode cX12_come 34 = .ok (.ifCond .lt 111, 3) := by decide +kernel
theorem dX12_come_37 : decode cX12_come 37 = .ok (.aload_n 0, 1) := by decide +kernel
theorem dX12_come_38 : decode cX12_come 38 = .ok (.getfield 125, 3) := by decide +kernel
theorem dX12_come_41 : decode cX12_come 41 = .ok (.ifCond .eq 104, 3) := by decide +kernel
theorem dX12_come_44 : decode cX12_come 44 = .ok (.aload_n 0, 1) := by decide +kernel
theorem dX12_come_45 : decode cX12_come 45 = .ok (.getfield 99, 3) := by decide +kernel
theorem dX12_come_48 : decode cX12_come 48 = .ok (.aload_n 0, 1) := by decide +kernel
theorem dX12_come_49 : decode cX12_come 49 = .ok (.getfield 255, 3) := by decide +kernel
theorem dX12_come_52 : decode cX12_come 52 = .ok (.lload_n 2, 1) := by decide +kernel
theorem dX12_come_53 : decode cX12_come 53 = .ok (.bipush 8, 2) := by decide +kernel
theorem dX12_come_55 : decode cX12_come 55 = .ok (.iload 5, 2) := by decide +kernel
theorem dX12_come_57 : decode cX12_come 57 = .ok (.imul, 1) := by decide +kernel
theorem dX12_come_58 : decode cX12_come 58 = .ok (.lshr, 1) := by decide +kernel
theorem dX12_come_59 : decode cX12_come 59 = .ok (.ldc2_w 266, 3) := by decide +kernel
theorem dX12_come_62 : decode cX12_come 62 = .ok (.land, 1) := by decide +kernel
theorem dX12_come_63 : decode cX12_come 63 = .ok (.l2i, 1) := by decide +kernel
theorem dX12_come_64 : decode cX12_come 64 = .ok (.iastore, 1) := by decide +kernel
theorem dX12_come_65 : decode cX12_come 65 = .ok (.aload_n 0, 1) := by decide +kernel
theorem dX12_come_66 : decode cX12_come 66 = .ok (.dup, 1) := by decide +kernel
theorem dX12_come_67 : decode cX12_come 67 = .ok (.getfield 255, 3) := by decide +kernel
theorem dX12_come_70 : decode cX12_come 70 = .ok (.iconst 1, 1) := by decide +kernel
theorem dX12_come_71 : decode cX12_come 71 = .ok (.iadd, 1) := by decide +kernel
theorem dX12_come_72 : decode cX12_come 72 = .ok (.putfield 255, 3) := by decide +kernel
theorem dX12_come_75 : decode cX12_come 75 = .ok (.aload_n 0, 1) := by decide +kernel
theorem dX12_come_76 : decode cX12_come 76 = .ok (.invokevirtual 268, 3) := by decide +kernel
theorem dX12_come_79 : decode cX12_come 79 = .ok (.ifCond .ne 11, 3) := by decide +kernel
theorem dX12_come_82 : decode cX12_come 82 = .ok (.aload_n 0, 1) := by decide +kernel
theorem dX12_come_83 : decode cX12_come 83 = .ok (.iconst 2, 1) := by decide +kernel
theorem dX12_come_84 : decode cX12_come 84 = .ok (.invokevirtual 175, 3) := by decide +kernel
theorem dX12_come_87 : decode cX12_come 87 = .ok (.goto 52, 3) := by decide +kernel
theorem dX12_come_90 : decode cX12_come 90 = .ok (.aload_n 0, 1) := by decide +kernel
theorem dX12_come_91 : decode cX12_come 91 = .ok (.getfield 255, 3) := by decide +kernel
theorem dX12_come_94 : decode cX12_come 94 = .ok (.iconst 5, 1) := by decide +kernel
theorem dX12_come_95 : decode cX12_come 95 = .ok (.if_icmp .le 44, 3) := by decide +kernel
theorem dX12_come_98 : decode cX12_come 98 = .ok (.aload_n 0, 1) := by decide +kernel
theorem dX12_come_99 : decode cX12_come 99 = .ok (.getfield 255, 3) := by decide +kernel
theorem dX12_come_102 : decode cX12_come 102 = .ok (.iconst 2, 1) := by decide +kernel
theorem dX12_come_103 : decode cX12_come 103 = .ok (.aload_n 0, 1) := by decide +kernel
theorem dX12_come_104 : decode cX12_come 104 = .ok (.getfield 99, 3) := by decide +kernel
theorem dX12_come_107 : decode cX12_come 107 = .ok (.iconst 1, 1) := by decide +kernel
theorem dX12_come_108 : decode cX12_come 108 = .ok (.iaload, 1) := by decide +kernel
theorem dX12_come_109 : decode cX12_come 109 = .ok (.iadd, 1) := by decide +kernel
theorem dX12_come_110 : decode cX12_come 110 = .ok (.if_icmp .ne 29, 3) := by decide +kernel
theorem dX12_come_113 : decode cX12_come 113 = .ok (.aload_n 0, 1) := by decide +kernel
theorem dX12_come_114 : decode cX12_come 114 = .ok (.invokevirtual 271, 3) := by decide +kernel
theorem dX12_come_117 : decode cX12_come 117 = .ok (.iload 4, 2) := by decide +kernel
theorem dX12_come_119 : decode cX12_come 119 = .ok (.aload_n 0, 1) := by decide +kernel
theorem dX12_come_120 : decode cX12_come 120 = .ok (.getfield 125, 3) := by decide +kernel
theorem dX12_come_123 : decode cX12_come 123 = .ok (.ifCond .ne 7, 3) := by decide +kernel
theorem dX12_come_126 : decode cX12_come 126 = .ok (.iconst 0, 1) := by decide +kernel
theorem dX12_come_127 : decode cX12_come 127 = .ok (.goto 4, 3) := by decide +kernel
theorem dX12_come_130 : decode cX12_come 130 = .ok (.iconst 1, 1) := by decide +kernel
theorem dX12_come_131 : decode cX12_come 131 = .ok (.iadd, 1) := by decide +kernel
theorem dX12_come_132 : decode cX12_come 132 = .ok (.istore 4, 2) := by decide +kernel
theorem dX12_come_134 : decode cX12_come 134 = .ok (.aload_n 0, 1) := by decide +kernel
theorem dX12_come_135 : decode cX12_come 135 = .ok (.iconst 0, 1) := by decide +kernel
theorem dX12_come_136 : decode cX12_come 136 = .ok (.putfield 255, 3) := by decide +kernel
theorem dX12_come_139 : decode cX12_come 139 = .ok (.iinc 5 (-1), 3) := by decide +kernel
theorem dX12_come_142 : decode cX12_come 142 = .ok (.goto (-110), 3) := by decide +kernel
theorem dX12_come_145 : decode cX12_come 145 = .ok (.iload 4, 2) := by decide +kernel
theorem dX12_come_147 : decode cX12_come 147 = .ok (.ireturn, 1) := by decide +kernel
theorem dX12_canBe_0 : decode cX12_canBe 0 = .ok (.aload_n 0, 1) := by decide +kernel
theorem dX12_canBe_1 : decode cX12_canBe 1 = .ok (.getfield 255, 3) := by decide +kernel
theorem dX12_canBe_4 : decode cX12_canBe 4 = .ok (.iconst 1, 1) := by decide +kernel
theorem dX12_canBe_5 : decode cX12_canBe 5 = .ok (.if_icmp .ne 20, 3) := by decide +kernel
theorem dX12_canBe_8 : decode cX12_canBe 8 = .ok (.aload_n 0, 1) := by decide +kernel
theorem dX12_canBe_9 : decode cX12_canBe 9 = .ok (.getfield 99, 3) := by decide +kernel
theorem dX12_canBe_12 : decode cX12_canBe 12 = .ok (.iconst 0, 1) := by decide +kernel
theorem dX12_canBe_13 : decode cX12_canBe 13 = .ok (.iaload, 1) := by decide +kernel
theorem dX12_canBe_14 : decode cX12_canBe 14 = .ok (.bipush 104, 2) := by decide +kernel
theorem dX12_canBe_16 : decode cX12_canBe 16 = .ok (.if_icmp .ne 7, 3) := by decide +kernel
theorem dX12_canBe_19 : decode cX12_canBe 19 = .ok (.iconst 1, 1) := by decide +kernel
theorem dX12_canBe_20 : decode cX12_canBe 20 = .ok (.goto 4, 3) := by decide +kernel
theorem dX12_canBe_23 : decode cX12_canBe 23 = .ok (.iconst 0, 1) := by decide +kernel
theorem dX12_canBe_24 : decode cX12_canBe 24 = .ok (.ireturn, 1) := by decide +kernel
theorem dX12_canBe_25 : decode cX12_canBe 25 = .ok (.aload_n 0, 1) := by decide +kernel
theorem dX12_canBe_26 : decode cX12_canBe 26 = .ok (.getfield 255, 3) := by decide +kernel
theorem dX12_canBe_29 : decode cX12_canBe 29 = .ok (.iconst 2, 1) := by decide +kernel
theorem dX12_canBe_30 : decode cX12_canBe 30 = .ok (.if_icmp .ne 20, 3) := by decide +kernel
theorem dX12_canBe_33 : decode cX12_canBe 33 = .ok (.aload_n 0, 1) := by decide +kernel
theorem dX12_canBe_34 : decode cX12_canBe 34 = .ok (.getfield 99, 3) := by decide +kernel
theorem dX12_canBe_37 : decode cX12_canBe 37 = .ok (.iconst 1, 1) := by decide +kernel
theorem dX12_canBe_38 : decode cX12_canBe 38 = .ok (.iaload, 1) := by decide +kernel
theorem dX12_canBe_39 : decode cX12_canBe 39 = .ok (.i2l, 1) := by decide +kernel
theorem dX12_canBe_40 : decode cX12_canBe 40 = .ok (.ldc2_w 274, 3) := by decide +kernel
theorem dX12_canBe_43 : decode cX12_canBe 43 = .ok (.ldc2_w 276, 3) := by decide +kernel
theorem dX12_canBe_46 : decode cX12_canBe 46 = .ok (.invokestatic 111, 3) := by decide +kernel
theorem dX12_canBe_49 : decode cX12_canBe 49 = .ok (.ireturn, 1) := by decide +kernel
theorem dX12_canBe_50 : decode cX12_canBe 50 = .ok (.aload_n 0, 1) := by decide +kernel
theorem dX12_canBe_51 : decode cX12_canBe 51 = .ok (.getfield 255, 3) := by decide +kernel
theorem dX12_canBe_54 : decode cX12_canBe 54 = .ok (.bipush 6, 2) := by decide +kernel
theorem dX12_canBe_56 : decode cX12_canBe 56 = .ok (.if_icmp .eq 5, 3) := by decide +kernel
theorem dX12_canBe_59 : decode cX12_canBe 59 = .ok (.iconst 1, 1) := by decide +kernel
theorem dX12_canBe_60 : decode cX12_canBe 60 = .ok (.ireturn, 1) := by decide +kernel
theorem dX12_canBe_61 : decode cX12_canBe 61 = .ok (.aload_n 0, 1) := by decide +kernel
theorem dX12_canBe_62 : decode cX12_canBe 62 = .ok (.getfield 99, 3) := by decide +kernel
theorem dX12_canBe_65 : decode cX12_canBe 65 = .ok (.iconst 2, 1) := by decide +kernel
theorem dX12_canBe_66 : decode cX12_canBe 66 = .ok (.iaload, 1) := by decide +kernel
theorem dX12_canBe_67 : decode cX12_canBe 67 = .ok (.istore_n 1, 1) := by decide +kernel
theorem dX12_canBe_68 : decode cX12_canBe 68 = .ok (.aload_n 0, 1) := by decide +kernel
theorem dX12_canBe_69 : decode cX12_canBe 69 = .ok (.getfield 99, 3) := by decide +kernel
theorem dX12_canBe_72 : decode cX12_canBe 72 = .ok (.iconst 4, 1) := by decide +kernel
theorem dX12_canBe_73 : decode cX12_canBe 73 = .ok (.iaload, 1) := by decide +kernel
theorem dX12_canBe_74 : decode cX12_canBe 74 = .ok (.iconst 1, 1) := by decide +kernel
theorem dX12_canBe_75 : decode cX12_canBe 75 = .ok (.iand, 1) := by decide +kernel
theorem dX12_canBe_76 : decode cX12_canBe 76 = .ok (.ifCond .ne 7, 3) := by decide +kernel
theorem dX12_canBe_79 : decode cX12_canBe 79 = .ok (.iconst 1, 1) := by decide +kernel
theorem dX12_canBe_80 : decode cX12_canBe 80 = .ok (.goto 4, 3) := by decide +kernel
theorem dX12_canBe_83 : decode cX12_canBe 83 = .ok (.iconst 0, 1) := by decide +kernel
theorem dX12_canBe_84 : decode cX12_canBe 84 = .ok (.istore_n 2, 1) := by decide +kernel
theorem dX12_canBe_85 : decode cX12_canBe 85 = .ok (.iload_n 1, 1) := by decide +kernel
theorem dX12_canBe_86 : decode cX12_canBe 86 = .ok (.iconst 1, 1) := by decide +kernel
theorem dX12_canBe_87 : decode cX12_canBe 87 = .ok (.iand, 1) := by decide +kernel
theorem dX12_canBe_88 : decode cX12_canBe 88 = .ok (.ifCond .ne 5, 3) := by decide +kernel
theorem dX12_canBe_91 : decode cX12_canBe 91 = .ok (.iload_n 2, 1) := by decide +kernel
theorem dX12_canBe_92 : decode cX12_canBe 92 = .ok (.ireturn, 1) := by decide +kernel
theorem dX12_canBe_93 : decode cX12_canBe 93 = .ok (.aload_n 0, 1) := by decide +kernel
theorem dX12_canBe_94 : decode cX12_canBe 94 = .ok (.getfield 99, 3) := by decide +kernel
theorem dX12_canBe_97 : decode cX12_canBe 97 = .ok (.iconst 1, 1) := by decide +kernel
theorem dX12_canBe_98 : decode cX12_canBe 98 = .ok (.iaload, 1) := by decide +kernel
theorem dX12_canBe_99 : decode cX12_canBe 99 = .ok (.iconst 4, 1) := by decide +kernel
theorem dX12_canBe_100 : decode cX12_canBe 100 = .ok (.if_icmp .ne 12, 3) := by decide +kernel
theorem dX12_canBe_103 : decode cX12_canBe 103 = .ok (.aload_n 0, 1) := by decide +kernel
theorem dX12_canBe_104 : decode cX12_canBe 104 = .ok (.getfield 99, 3) := by decide +kernel
theorem dX12_canBe_107 : decode cX12_canBe 107 = .ok (.iconst 3, 1) := by decide +kernel
theorem dX12_canBe_108 : decode cX12_canBe 108 = .ok (.iaload, 1) := by decide +kernel
theorem dX12_canBe_109 : decode cX12_canBe 109 = .ok (.ifCond .eq 5, 3) := by decide +kernel
theorem dX12_canBe_112 : decode cX12_canBe 112 = .ok (.iconst 0, 1) := by decide +kernel
theorem dX12_canBe_113 : decode cX12_canBe 113 = .ok (.ireturn, 1) := by decide +kernel
theorem dX12_canBe_114 : decode cX12_canBe 114 = .ok (.iload_n 1, 1) := by decide +kernel
theorem dX12_canBe_115 : decode cX12_canBe 115 = .ok (.bipush 7, 2) := by decide +kernel
theorem dX12_canBe_117 : decode cX12_canBe 117 = .ok (.if_icmp .eq 34, 3) := by decide +kernel
theorem dX12_canBe_120 : decode cX12_canBe 120 = .ok (.iload_n 1, 1) := by decide +kernel
theorem dX12_canBe_121 : decode cX12_canBe 121 = .ok (.bipush 11, 2) := by decide +kernel
theorem dX12_canBe_123 : decode cX12_canBe 123 = .ok (.if_icmp .eq 28, 3) := by decide +kernel
theorem dX12_canBe_126 : decode cX12_canBe 126 = .ok (.iload_n 1, 1) := by decide +kernel
theorem dX12_canBe_127 : decode cX12_canBe 127 = .ok (.bipush 19, 2) := by decide +kernel
theorem dX12_canBe_129 : decode cX12_canBe 129 = .ok (.if_icmp .eq 22, 3) := by decide +kernel
theorem dX12_canBe_132 : decode cX12_canBe 132 = .ok (.iload_n 1, 1) := by decide +kernel
theorem dX12_canBe_133 : decode cX12_canBe 133 = .ok (.bipush 35, 2) := by decide +kernel
theorem dX12_canBe_135 : decode cX12_canBe 135 = .ok (.if_icmp .eq 16, 3) := by decide +kernel
theorem dX12_canBe_138 : decode cX12_canBe 138 = .ok (.iload_n 1, 1) := by decide +kernel
theorem dX12_canBe_139 : decode cX12_canBe 139 = .ok (.bipush 67, 2) := by decide +kernel
theorem dX12_canBe_141 : decode cX12_canBe 141 = .ok (.if_icmp .eq 10, 3) := by decide +kernel
theorem dX12_canBe_144 : decode cX12_canBe 144 = .ok (.iload_n 1, 1) := by decide +kernel
theorem dX12_canBe_145 : decode cX12_canBe 145 = .ok (.sipush 131, 3) := by decide +kernel
theorem dX12_canBe_148 : decode cX12_canBe 148 = .ok (.if_icmp .ne 7, 3) := by decide +kernel
theorem dX12_canBe_151 : decode cX12_canBe 151 = .ok (.iconst 1, 1) := by decide +kernel
theorem dX12_canBe_152 : decode cX12_canBe 152 = .ok (.goto 4, 3) := by decide +kernel
theorem dX12_canBe_155 : decode cX12_canBe 155 = .ok (.iconst 0, 1) := by decide +kernel
theorem dX12_canBe_156 : decode cX12_canBe 156 = .ok (.istore_n 3, 1) := by decide +kernel
theorem dX12_canBe_157 : decode cX12_canBe 157 = .ok (.iload_n 1, 1) := by decide +kernel
theorem dX12_canBe_158 : decode cX12_canBe 158 = .ok (.iconst 1, 1) := by decide +kernel
theorem dX12_canBe_159 : decode cX12_canBe 159 = .ok (.if_icmp .ne 7, 3) := by decide +kernel
theorem dX12_canBe_162 : decode cX12_canBe 162 = .ok (.iload_n 2, 1) := by decide +kernel
theorem dX12_canBe_163 : decode cX12_canBe 163 = .ok (.goto 30, 3) := by decide +kernel
theorem dX12_canBe_166 : decode cX12_canBe 166 = .ok (.iload_n 3, 1) := by decide +kernel
theorem dX12_canBe_167 : decode cX12_canBe 167 = .ok (.ifCond .eq 25, 3) := by decide +kernel
theorem dX12_canBe_170 : decode cX12_canBe 170 = .ok (.aload_n 0, 1) := by decide +kernel
theorem dX12_canBe_171 : decode cX12_canBe 171 = .ok (.getfield 99, 3) := by decide +kernel
theorem dX12_canBe_174 : decode cX12_canBe 174 = .ok (.iconst 4, 1) := by decide +kernel
theorem dX12_canBe_175 : decode cX12_canBe 175 = .ok (.iaload, 1) := by decide +kernel
theorem dX12_canBe_176 : decode cX12_canBe 176 = .ok (.ifCond .ne 16, 3) := by decide +kernel
theorem dX12_canBe_179 : decode cX12_canBe 179 = .ok (.aload_n 0, 1) := by decide +kernel
theorem dX12_canBe_180 : decode cX12_canBe 180 = .ok (.getfield 99, 3) := by decide +kernel
theorem dX12_canBe_183 : decode cX12_canBe 183 = .ok (.iconst 5, 1) := by decide +kernel
theorem dX12_canBe_184 : decode cX12_canBe 184 = .ok (.iaload, 1) := by decide +kernel
theorem dX12_canBe_185 : decode cX12_canBe 185 = .ok (.ifCond .ne 7, 3) := by decide +kernel
theorem dX12_canBe_188 : decode cX12_canBe 188 = .ok (.iconst 1, 1) := by decide +kernel
theorem dX12_canBe_189 : decode cX12_canBe 189 = .ok (.goto 4, 3) := by decide +kernel
theorem dX12_canBe_192 : decode cX12_canBe 192 = .ok (.iconst 0, 1) := by decide +kernel
theorem dX12_canBe_193 : decode cX12_canBe 193 = .ok (.ireturn, 1) := by decide +kernel
theorem dX12_acknowledges_0 : decode cX12_acknowledges 0 = .ok (.aload_n 0, 1) := by decide +kernel
theorem dX12_acknowledges_1 : decode cX12_acknowledges 1 = .ok (.getfield 99, 3) := by decide +kernel
theorem dX12_acknowledges_4 : decode cX12_acknowledges 4 = .ok (.iconst 4, 1) := by decide +kernel
theorem dX12_acknowledges_5 : decode cX12_acknowledges 5 = .ok (.iaload, 1) := by decide +kernel
theorem dX12_acknowledges_6 : decode cX12_acknowledges 6 = .ok (.iconst 2, 1) := by decide +kernel
theorem dX12_acknowledges_7 : decode cX12_acknowledges 7 = .ok (.idiv, 1) := by decide +kernel
theorem dX12_acknowledges_8 : decode cX12_acknowledges 8 = .ok (.sipush 128, 3) := by decide +kernel
theorem dX12_acknowledges_11 : decode cX12_acknowledges 11 = .ok (.aload_n 0, 1) := by decide +kernel
theorem dX12_acknowledges_12 : decode cX12_acknowledges 12 = .ok (.getfield 99, 3) := by decide +kernel
theorem dX12_acknowledges_15 : decode cX12_acknowledges 15 = .ok (.iconst 5, 1) := by decide +kernel
theorem dX12_acknowledges_16 : decode cX12_acknowledges 16 = .ok (.iaload, 1) := by decide +kernel
theorem dX12_acknowledges_17 : decode cX12_acknowledges 17 = .ok (.imul, 1) := by decide +kernel
theorem dX12_acknowledges_18 : decode cX12_acknowledges 18 = .ok (.iadd, 1) := by decide +kernel
theorem dX12_acknowledges_19 : decode cX12_acknowledges 19 = .ok (.istore_n 1, 1) := by decide +kernel
theorem dX12_acknowledges_20 : decode cX12_acknowledges 20 = .ok (.aload_n 0, 1) := by decide +kernel
theorem dX12_acknowledges_21 : decode cX12_acknowledges 21 = .ok (.getfield 200, 3) := by decide +kernel
theorem dX12_acknowledges_24 : decode cX12_acknowledges 24 = .ok (.aload_n 0, 1) := by decide +kernel
theorem dX12_acknowledges_25 : decode cX12_acknowledges 25 = .ok (.getfield 206, 3) := by decide +kernel
theorem dX12_acknowledges_28 : decode cX12_acknowledges 28 = .ok (.isub, 1) := by decide +kernel
theorem dX12_acknowledges_29 : decode cX12_acknowledges 29 = .ok (.ldc 185, 2) := by decide +kernel
theorem dX12_acknowledges_31 : decode cX12_acknowledges 31 = .ok (.irem, 1) := by decide +kernel
theorem dX12_acknowledges_32 : decode cX12_acknowledges 32 = .ok (.istore_n 2, 1) := by decide +kernel
theorem dX12_acknowledges_33 : decode cX12_acknowledges 33 = .ok (.iload_n 1, 1) := by decide +kernel
theorem dX12_acknowledges_34 : decode cX12_acknowledges 34 = .ok (.iload_n 2, 1) := by decide +kernel
theorem dX12_acknowledges_35 : decode cX12_acknowledges 35 = .ok (.isub, 1) := by decide +kernel
theorem dX12_acknowledges_36 : decode cX12_acknowledges 36 = .ok (.ldc 185, 2) := by decide +kernel
theorem dX12_acknowledges_38 : decode cX12_acknowledges 38 = .ok (.iadd, 1) := by decide +kernel
theorem dX12_acknowledges_39 : decode cX12_acknowledges 39 = .ok (.ldc 185, 2) := by decide +kernel
theorem dX12_acknowledges_41 : decode cX12_acknowledges 41 = .ok (.irem, 1) := by decide +kernel
theorem dX12_acknowledges_42 : decode cX12_acknowledges 42 = .ok (.istore_n 3, 1) := by decide +kernel
theorem dX12_acknowledges_43 : decode cX12_acknowledges 43 = .ok (.iload_n 3, 1) := by decide +kernel
theorem dX12_acknowledges_44 : decode cX12_acknowledges 44 = .ok (.aload_n 0, 1) := by decide +kernel
theorem dX12_acknowledges_45 : decode cX12_acknowledges 45 = .ok (.getfield 206, 3) := by decide +kernel
theorem dX12_acknowledges_48 : decode cX12_acknowledges 48 = .ok (.if_icmp .le 10, 3) := by decide +kernel
theorem dX12_acknowledges_51 : decode cX12_acknowledges 51 = .ok (.aload_n 0, 1) := by decide +kernel
theorem dX12_acknowledges_52 : decode cX12_acknowledges 52 = .ok (.iconst 3, 1) := by decide +kernel
theorem dX12_acknowledges_53 : decode cX12_acknowledges 53 = .ok (.invokevirtual 175, 3) := by decide +kernel
theorem dX12_acknowledges_56 : decode cX12_acknowledges 56 = .ok (.iconst 0, 1) := by decide +kernel
theorem dX12_acknowledges_57 : decode cX12_acknowledges 57 = .ok (.ireturn, 1) := by decide +kernel
theorem dX12_acknowledges_58 : decode cX12_acknowledges 58 = .ok (.iload_n 3, 1) := by decide +kernel
theorem dX12_acknowledges_59 : decode cX12_acknowledges 59 = .ok (.istore 4, 2) := by decide +kernel
theorem dX12_acknowledges_61 : decode cX12_acknowledges 61 = .ok (.iload 4, 2) := by decide +kernel
theorem dX12_acknowledges_63 : decode cX12_acknowledges 63 = .ok (.aload_n 0, 1) := by decide +kernel
theorem dX12_acknowledges_64 : decode cX12_acknowledges 64 = .ok (.getfield 206, 3) := by decide +kernel
theorem dX12_acknowledges_67 : decode cX12_acknowledges 67 = .ok (.if_icmp .ge 133, 3) := by decide +kernel
theorem dX12_acknowledges_70 : decode cX12_acknowledges 70 = .ok (.aload_n 0, 1) := by decide +kernel
theorem dX12_acknowledges_71 : decode cX12_acknowledges 71 = .ok (.getfield 72, 3) := by decide +kernel
theorem dX12_acknowledges_74 : decode cX12_acknowledges 74 = .ok (.iload 4, 2) := by decide +kernel
theorem dX12_acknowledges_76 : decode cX12_acknowledges 76 = .ok (.iload_n 3, 1) := by decide +kernel
theorem dX12_acknowledges_77 : decode cX12_acknowledges 77 = .ok (.isub, 1) := by decide +kernel
theorem dX12_acknowledges_78 : decode cX12_acknowledges 78 = .ok (.aload_n 0, 1) := by decide +kernel
theorem dX12_acknowledges_79 : decode cX12_acknowledges 79 = .ok (.getfield 72, 3) := by decide +kernel
theorem dX12_acknowledges_82 : decode cX12_acknowledges 82 = .ok (.iload 4, 2) := by decide +kernel
theorem dX12_acknowledges_84 : decode cX12_acknowledges 84 = .ok (.iaload, 1) := by decide +kernel
theorem dX12_acknowledges_85 : decode cX12_acknowledges 85 = .ok (.iastore, 1) := by decide +kernel
theorem dX12_acknowledges_86 : decode cX12_acknowledges 86 = .ok (.aload_n 0, 1) := by decide +kernel
theorem dX12_acknowledges_87 : decode cX12_acknowledges 87 = .ok (.getfield 75, 3) := by decide +kernel
theorem dX12_acknowledges_90 : decode cX12_acknowledges 90 = .ok (.iload 4, 2) := by decide +kernel
theorem dX12_acknowledges_92 : decode cX12_acknowledges 92 = .ok (.iload_n 3, 1) := by decide +kernel
theorem dX12_acknowledges_93 : decode cX12_acknowledges 93 = .ok (.isub, 1) := by decide +kernel
theorem dX12_acknowledges_94 : decode cX12_acknowledges 94 = .ok (.aload_n 0, 1) := by decide +kernel
theorem dX12_acknowledges_95 : decode cX12_acknowledges 95 = .ok (.getfield 75, 3) := by decide +kernel
theorem dX12_acknowledges_98 : decode cX12_acknowledges 98 = .ok (.iload 4, 2) := by decide +kernel
theorem dX12_acknowledges_100 : decode cX12_acknowledges 100 = .ok (.baload, 1) := by decide +kernel
theorem dX12_acknowledges_101 : decode cX12_acknowledges 101 = .ok (.bastore, 1) := by decide +kernel
theorem dX12_acknowledges_102 : decode cX12_acknowledges 102 = .ok (.aload_n 0, 1) := by decide +kernel
theorem dX12_acknowledges_103 : decode cX12_acknowledges 103 = .ok (.getfield 78, 3) := by decide +kernel
theorem dX12_acknowledges_106 : decode cX12_acknowledges 106 = .ok (.iload 4, 2) := by decide +kernel
theorem dX12_acknowledges_108 : decode cX12_acknowledges 108 = .ok (.iload_n 3, 1) := by decide +kernel
theorem dX12_acknowledges_109 : decode cX12_acknowledges 109 = .ok (.isub, 1) := by decide +kernel
theorem dX12_acknowledges_110 : decode cX12_acknowledges 110 = .ok (.aload_n 0, 1) := by decide +kernel
theorem dX12_acknowledges_111 : decode cX12_acknowledges 111 = .ok (.getfield 78, 3) := by decide +kernel
theorem dX12_acknowledges_114 : decode cX12_acknowledges 114 = .ok (.iload 4, 2) := by decide +kernel
theorem dX12_acknowledges_116 : decode cX12_acknowledges 116 = .ok (.iaload, 1) := by decide +kernel
theorem dX12_acknowledges_117 : decode cX12_acknowledges 117 = .ok (.iastore, 1) := by decide +kernel
theorem dX12_acknowledges_118 : decode cX12_acknowledges 118 = .ok (.aload_n 0, 1) := by decide +kernel
theorem dX12_acknowledges_119 : decode cX12_acknowledges 119 = .ok (.getfield 81, 3) := by decide +kernel
theorem dX12_acknowledges_122 : decode cX12_acknowledges 122 = .ok (.iload 4, 2) := by decide +kernel
theorem dX12_acknowledges_124 : decode cX12_acknowledges 124 = .ok (.iload_n 3, 1) := by decide +kernel
theorem dX12_acknowledges_125 : decode cX12_acknowledges 125 = .ok (.isub, 1) := by decide +kernel
theorem dX12_acknowledges_126 : decode cX12_acknowledges 126 = .ok (.aload_n 0, 1) := by decide +kernel
theorem dX12_acknowledges_127 : decode cX12_acknowledges 127 = .ok (.getfield 81, 3) := by decide +kernel
theorem dX12_acknowledges_130 : decode cX12_acknowledges 130 = .ok (.iload 4, 2) := by decide +kernel
theorem dX12_acknowledges_132 : decode cX12_acknowledges 132 = .ok (.iaload, 1) := by decide +kernel
theorem dX12_acknowledges_133 : decode cX12_acknowledges 133 = .ok (.iastore, 1) := by decide +kernel
theorem dX12_acknowledges_134 : decode cX12_acknowledges 134 = .ok (.aload_n 0, 1) := by decide +kernel
theorem dX12_acknowledges_135 : decode cX12_acknowledges 135 = .ok (.getfield 84, 3) := by decide +kernel
theorem dX12_acknowledges_138 : decode cX12_acknowledges 138 = .ok (.iload 4, 2) := by decide +kernel
theorem dX12_acknowledges_140 : decode cX12_acknowledges 140 = .ok (.iload_n 3, 1) := by decide +kernel
theorem dX12_acknowledges_141 : decode cX12_acknowledges 141 = .ok (.isub, 1) := by decide +kernel
theorem dX12_acknowledges_142 : decode cX12_acknowledges 142 = .ok (.aload_n 0, 1) := by decide +kernel
theorem dX12_acknowledges_143 : decode cX12_acknowledges 143 = .ok (.getfield 84, 3) := by decide +kernel
theorem dX12_acknowledges_146 : decode cX12_acknowledges 146 = .ok (.iload 4, 2) := by decide +kernel
theorem dX12_acknowledges_148 : decode cX12_acknowledges 148 = .ok (.iaload, 1) := by decide +kernel
theorem dX12_acknowledges_149 : decode cX12_acknowledges 149 = .ok (.iastore, 1) := by decide +kernel
theorem dX12_acknowledges_150 : decode cX12_acknowledges 150 = .ok (.iconst 0, 1) := by decide +kernel
theorem dX12_acknowledges_151 : decode cX12_acknowledges 151 = .ok (.istore 5, 2) := by decide +kernel
theorem dX12_acknowledges_153 : decode cX12_acknowledges 153 = .ok (.iload 5, 2) := by decide +kernel
theorem dX12_acknowledges_155 : decode cX12_acknowledges 155 = .ok (.bipush 7, 2) := by decide +kernel
theorem dX12_acknowledges_157 : decode cX12_acknowledges 157 = .ok (.if_icmp .ge 37, 3) := by decide +kernel
theorem dX12_acknowledges_160 : decode cX12_acknowledges 160 = .ok (.aload_n 0, 1) := by decide +kernel
theorem dX12_acknowledges_161 : decode cX12_acknowledges 161 = .ok (.getfield 87, 3) := by decide +kernel
theorem dX12_acknowledges_164 : decode cX12_acknowledges 164 = .ok (.bipush 7, 2) := by decide +kernel
theorem dX12_acknowledges_166 : decode cX12_acknowledges 166 = .ok (.iload 4, 2) := by decide +kernel
theorem dX12_acknowledges_168 : decode cX12_acknowledges 168 = .ok (.iload_n 3, 1) := by decide +kernel
theorem dX12_acknowledges_169 : decode cX12_acknowledges 169 = .ok (.isub, 1) := by decide +kernel
theorem dX12_acknowledges_170 : decode cX12_acknowledges 170 = .ok (.imul, 1) := by decide +kernel
theorem dX12_acknowledges_171 : decode cX12_acknowledges 171 = .ok (.iload 5, 2) := by decide +kernel
theorem dX12_acknowledges_173 : decode cX12_acknowledges 173 = .ok (.iadd, 1) := by decide +kernel
theorem dX12_acknowledges_174 : decode cX12_acknowledges 174 = .ok (.aload_n 0, 1) := by decide +kernel
theorem dX12_acknowledges_175 : decode cX12_acknowledges 175 = .ok (.getfield 87, 3) := by decide +kernel
theorem dX12_acknowledges_178 : decode cX12_acknowledges 178 = .ok (.bipush 7, 2) := by decide +kernel
theorem dX12_acknowledges_180 : decode cX12_acknowledges 180 = .ok (.iload 4, 2) := by decide +kernel
theorem dX12_acknowledges_182 : decode cX12_acknowledges 182 = .ok (.imul, 1) := by decide +kernel
theorem dX12_acknowledges_183 : decode cX12_acknowledges 183 = .ok (.iload 5, 2) := by decide +kernel
theorem dX12_acknowledges_185 : decode cX12_acknowledges 185 = .ok (.iadd, 1) := by decide +kernel
theorem dX12_acknowledges_186 : decode cX12_acknowledges 186 = .ok (.iaload, 1) := by decide +kernel
theorem dX12_acknowledges_187 : decode cX12_acknowledges 187 = .ok (.iastore, 1) := by decide +kernel
theorem dX12_acknowledges_188 : decode cX12_acknowledges 188 = .ok (.iinc 5 1, 3) := by decide +kernel
theorem dX12_acknowledges_191 : decode cX12_acknowledges 191 = .ok (.goto (-38), 3) := by decide +kernel
theorem dX12_acknowledges_194 : decode cX12_acknowledges 194 = .ok (.iinc 4 1, 3) := by decide +kernel
theorem dX12_acknowledges_197 : decode cX12_acknowledges 197 = .ok (.goto (-136), 3) := by decide +kernel
theorem dX12_acknowledges_200 : decode cX12_acknowledges 200 = .ok (.aload_n 0, 1) := by decide +kernel
theorem dX12_acknowledges_201 : decode cX12_acknowledges 201 = .ok (.dup, 1) := by decide +kernel
theorem dX12_acknowledges_202 : decode cX12_acknowledges 202 = .ok (.getfield 206, 3) := by decide +kernel
theorem dX12_acknowledges_205 : decode cX12_acknowledges 205 = .ok (.iload_n 3, 1) := by decide +kernel
theorem dX12_acknowledges_206 : decode cX12_acknowledges 206 = .ok (.isub, 1) := by decide +kernel
theorem dX12_acknowledges_207 : decode cX12_acknowledges 207 = .ok (.putfield 206, 3) := by decide +kernel
theorem dX12_acknowledges_210 : decode cX12_acknowledges 210 = .ok (.iconst 1, 1) := by decide +kernel
theorem dX12_acknowledges_211 : decode cX12_acknowledges 211 = .ok (.ireturn, 1) := by decide +kernel
theorem dX12_takes_0 : decode cX12_takes 0 = .ok (.aload_n 0, 1) := by decide +kernel
theorem dX12_takes_1 : decode cX12_takes 1 = .ok (.aload_n 0, 1) := by decide +kernel
theorem dX12_takes_2 : decode cX12_takes 2 = .ok (.getfield 209, 3) := by decide +kernel
theorem dX12_takes_5 : decode cX12_takes 5 = .ok (.putfield 261, 3) := by decide +kernel
theorem dX12_takes_8 : decode cX12_takes 8 = .ok (.aload_n 0, 1) := by decide +kernel
theorem dX12_takes_9 : decode cX12_takes 9 = .ok (.getfield 99, 3) := by decide +kernel
theorem dX12_takes_12 : decode cX12_takes 12 = .ok (.iconst 2, 1) := by decide +kernel
theorem dX12_takes_13 : decode cX12_takes 13 = .ok (.iaload, 1) := by decide +kernel
theorem dX12_takes_14 : decode cX12_takes 14 = .ok (.istore_n 1, 1) := by decide +kernel
theorem dX12_takes_15 : decode cX12_takes 15 = .ok (.iload_n 1, 1) := by decide +kernel
theorem dX12_takes_16 : decode cX12_takes 16 = .ok (.iconst 1, 1) := by decide +kernel
theorem dX12_takes_17 : decode cX12_takes 17 = .ok (.iand, 1) := by decide +kernel
theorem dX12_takes_18 : decode cX12_takes 18 = .ok (.ifCond .ne 10, 3) := by decide +kernel
theorem dX12_takes_21 : decode cX12_takes 21 = .ok (.aload_n 0, 1) := by decide +kernel
theorem dX12_takes_22 : decode cX12_takes 22 = .ok (.invokevirtual 278, 3) := by decide +kernel
theorem dX12_takes_25 : decode cX12_takes 25 = .ok (.goto 21, 3) := by decide +kernel
theorem dX12_takes_28 : decode cX12_takes 28 = .ok (.iload_n 1, 1) := by decide +kernel
theorem dX12_takes_29 : decode cX12_takes 29 = .ok (.iconst 1, 1) := by decide +kernel
theorem dX12_takes_30 : decode cX12_takes 30 = .ok (.if_icmp .ne 11, 3) := by decide +kernel
theorem dX12_takes_33 : decode cX12_takes 33 = .ok (.aload_n 0, 1) := by decide +kernel
theorem dX12_takes_34 : decode cX12_takes 34 = .ok (.invokevirtual 281, 3) := by decide +kernel
theorem dX12_takes_37 : decode cX12_takes 37 = .ok (.istore_n 2, 1) := by decide +kernel
theorem dX12_takes_38 : decode cX12_takes 38 = .ok (.goto 8, 3) := by decide +kernel
theorem dX12_takes_41 : decode cX12_takes 41 = .ok (.aload_n 0, 1) := by decide +kernel
theorem dX12_takes_42 : decode cX12_takes 42 = .ok (.iload_n 1, 1) := by decide +kernel
theorem dX12_takes_43 : decode cX12_takes 43 = .ok (.invokevirtual 284, 3) := by decide +kernel
theorem dX12_takes_46 : decode cX12_takes 46 = .ok (.aload_n 0, 1) := by decide +kernel
theorem dX12_takes_47 : decode cX12_takes 47 = .ok (.getfield 125, 3) := by decide +kernel
theorem dX12_takes_50 : decode cX12_takes 50 = .ok (.iconst 3, 1) := by decide +kernel
theorem dX12_takes_51 : decode cX12_takes 51 = .ok (.if_icmp .ne 26, 3) := by decide +kernel
theorem dX12_takes_54 : decode cX12_takes 54 = .ok (.aload_n 0, 1) := by decide +kernel
theorem dX12_takes_55 : decode cX12_takes 55 = .ok (.getfield 206, 3) := by decide +kernel
theorem dX12_takes_58 : decode cX12_takes 58 = .ok (.ifCond .ne 19, 3) := by decide +kernel
theorem dX12_takes_61 : decode cX12_takes 61 = .ok (.aload_n 0, 1) := by decide +kernel
theorem dX12_takes_62 : decode cX12_takes 62 = .ok (.iconst 1, 1) := by decide +kernel
theorem dX12_takes_63 : decode cX12_takes 63 = .ok (.putfield 125, 3) := by decide +kernel
theorem dX12_takes_66 : decode cX12_takes 66 = .ok (.aload_n 0, 1) := by decide +kernel
theorem dX12_takes_67 : decode cX12_takes 67 = .ok (.bipush 35, 2) := by decide +kernel
theorem dX12_takes_69 : decode cX12_takes 69 = .ok (.iconst 0, 1) := by decide +kernel
theorem dX12_takes_70 : decode cX12_takes 70 = .ok (.iconst 0, 1) := by decide +kernel
theorem dX12_takes_71 : decode cX12_takes 71 = .ok (.iconst 0, 1) := by decide +kernel
theorem dX12_takes_72 : decode cX12_takes 72 = .ok (.iconst 0, 1) := by decide +kernel
theorem dX12_takes_73 : decode cX12_takes 73 = .ok (.invokevirtual 193, 3) := by decide +kernel
theorem dX12_takes_76 : decode cX12_takes 76 = .ok (.istore_n 2, 1) := by decide +kernel
theorem dX12_takes_77 : decode cX12_takes 77 = .ok (.aload_n 0, 1) := by decide +kernel
theorem dX12_takes_78 : decode cX12_takes 78 = .ok (.invokevirtual 165, 3) := by decide +kernel
theorem dX12_takes_81 : decode cX12_takes 81 = .ok (.aload_n 0, 1) := by decide +kernel
theorem dX12_takes_82 : decode cX12_takes 82 = .ok (.getfield 125, 3) := by decide +kernel
theorem dX12_takes_85 : decode cX12_takes 85 = .ok (.ifCond .eq 25, 3) := by decide +kernel
theorem dX12_takes_88 : decode cX12_takes 88 = .ok (.aload_n 0, 1) := by decide +kernel
theorem dX12_takes_89 : decode cX12_takes 89 = .ok (.getfield 182, 3) := by decide +kernel
theorem dX12_takes_92 : decode cX12_takes 92 = .ok (.aload_n 0, 1) := by decide +kernel
theorem dX12_takes_93 : decode cX12_takes 93 = .ok (.getfield 197, 3) := by decide +kernel
theorem dX12_takes_96 : decode cX12_takes 96 = .ok (.isub, 1) := by decide +kernel
theorem dX12_takes_97 : decode cX12_takes 97 = .ok (.aload_n 0, 1) := by decide +kernel
theorem dX12_takes_98 : decode cX12_takes 98 = .ok (.getfield 7, 3) := by decide +kernel
theorem dX12_takes_101 : decode cX12_takes 101 = .ok (.iconst 2, 1) := by decide +kernel
theorem dX12_takes_102 : decode cX12_takes 102 = .ok (.iaload, 1) := by decide +kernel
theorem dX12_takes_103 : decode cX12_takes 103 = .ok (.if_icmp .lt 7, 3) := by decide +kernel
theorem dX12_takes_106 : decode cX12_takes 106 = .ok (.aload_n 0, 1) := by decide +kernel
theorem dX12_takes_107 : decode cX12_takes 107 = .ok (.invokevirtual 287, 3) := by decide +kernel
theorem dX12_takes_110 : decode cX12_takes 110 = .ok (.return_, 1) := by decide +kernel
theorem dX12_takesData_0 : decode cX12_takesData 0 = .ok (.aload_n 0, 1) := by decide +kernel
theorem dX12_takesData_1 : decode cX12_takesData 1 = .ok (.getfield 99, 3) := by decide +kernel
theorem dX12_takesData_4 : decode cX12_takesData 4 = .ok (.iconst 2, 1) := by decide +kernel
theorem dX12_takesData_5 : decode cX12_takesData 5 = .ok (.iaload, 1) := by decide +kernel
theorem dX12_takesData_6 : decode cX12_takesData 6 = .ok (.iconst 2, 1) := by decide +kernel
theorem dX12_takesData_7 : decode cX12_takesData 7 = .ok (.idiv, 1) := by decide +kernel
theorem dX12_takesData_8 : decode cX12_takesData 8 = .ok (.sipush 128, 3) := by decide +kernel
theorem dX12_takesData_11 : decode cX12_takesData 11 = .ok (.aload_n 0, 1) := by decide +kernel
theorem dX12_takesData_12 : decode cX12_takesData 12 = .ok (.getfield 99, 3) := by decide +kernel
theorem dX12_takesData_15 : decode cX12_takesData 15 = .ok (.iconst 3, 1) := by decide +kernel
theorem dX12_takesData_16 : decode cX12_takesData 16 = .ok (.iaload, 1) := by decide +kernel
theorem dX12_takesData_17 : decode cX12_takesData 17 = .ok (.imul, 1) := by decide +kernel
theorem dX12_takesData_18 : decode cX12_takesData 18 = .ok (.iadd, 1) := by decide +kernel
theorem dX12_takesData_19 : decode cX12_takesData 19 = .ok (.istore_n 1, 1) := by decide +kernel
theorem dX12_takesData_20 : decode cX12_takesData 20 = .ok (.aload_n 0, 1) := by decide +kernel
theorem dX12_takesData_21 : decode cX12_takesData 21 = .ok (.getfield 125, 3) := by decide +kernel
theorem dX12_takesData_24 : decode cX12_takesData 24 = .ok (.iconst 2, 1) := by decide +kernel
theorem dX12_takesData_25 : decode cX12_takesData 25 = .ok (.if_icmp .eq 19, 3) := by decide +kernel
theorem dX12_takesData_28 : decode cX12_takesData 28 = .ok (.aload_n 0, 1) := by decide +kernel
theorem dX12_takesData_29 : decode cX12_takesData 29 = .ok (.getfield 125, 3) := by decide +kernel
theorem dX12_takesData_32 : decode cX12_takesData 32 = .ok (.iconst 3, 1) := by decide +kernel
theorem dX12_takesData_33 : decode cX12_takesData 33 = .ok (.if_icmp .eq 11, 3) := by decide +kernel
theorem dX12_takesData_36 : decode cX12_takesData 36 = .ok (.aload_n 0, 1) := by decide +kernel
theorem dX12_takesData_37 : decode cX12_takesData 37 = .ok (.iconst 5, 1) := by decide +kernel
theorem dX12_takesData_38 : decode cX12_takesData 38 = .ok (.invokevirtual 175, 3) := by decide +kernel
theorem dX12_takesData_41 : decode cX12_takesData 41 = .ok (.goto 69, 3) := by decide +kernel
theorem dX12_takesData_44 : decode cX12_takesData 44 = .ok (.iload_n 1, 1) := by decide +kernel
theorem dX12_takesData_45 : decode cX12_takesData 45 = .ok (.aload_n 0, 1) := by decide +kernel
theorem dX12_takesData_46 : decode cX12_takesData 46 = .ok (.getfield 182, 3) := by decide +kernel
theorem dX12_takesData_49 : decode cX12_takesData 49 = .ok (.ldc 185, 2) := by decide +kernel
theorem dX12_takesData_51 : decode cX12_takesData 51 = .ok (.irem, 1) := by decide +kernel
theorem dX12_takesData_52 : decode cX12_takesData 52 = .ok (.if_icmp .eq 11, 3) := by decide +kernel
theorem dX12_takesData_55 : decode cX12_takesData 55 = .ok (.aload_n 0, 1) := by decide +kernel
theorem dX12_takesData_56 : decode cX12_takesData 56 = .ok (.iconst 3, 1) := by decide +kernel
theorem dX12_takesData_57 : decode cX12_takesData 57 = .ok (.invokevirtual 175, 3) := by decide +kernel
theorem dX12_takesData_60 : decode cX12_takesData 60 = .ok (.goto 50, 3) := by decide +kernel
theorem dX12_takesData_63 : decode cX12_takesData 63 = .ok (.aload_n 0, 1) := by decide +kernel
theorem dX12_takesData_64 : decode cX12_takesData 64 = .ok (.invokevirtual 281, 3) := by decide +kernel
theorem dX12_takesData_67 : decode cX12_takesData 67 = .ok (.ifCond .eq 43, 3) := by decide +kernel
theorem dX12_takesData_70 : decode cX12_takesData 70 = .ok (.aload_n 0, 1) := by decide +kernel
theorem dX12_takesData_71 : decode cX12_takesData 71 = .ok (.aload_n 0, 1) := by decide +kernel
theorem dX12_takesData_72 : decode cX12_takesData 72 = .ok (.getfield 182, 3) := by decide +kernel
theorem dX12_takesData_75 : decode cX12_takesData 75 = .ok (.aload_n 0, 1) := by decide +kernel
theorem dX12_takesData_76 : decode cX12_takesData 76 = .ok (.getfield 197, 3) := by decide +kernel
theorem dX12_takesData_79 : decode cX12_takesData 79 = .ok (.if_icmp .ne 10, 3) := by decide +kernel
theorem dX12_takesData_82 : decode cX12_takesData 82 = .ok (.aload_n 0, 1) := by decide +kernel
theorem dX12_takesData_83 : decode cX12_takesData 83 = .ok (.getfield 209, 3) := by decide +kernel
theorem dX12_takesData_86 : decode cX12_takesData 86 = .ok (.goto 7, 3) := by decide +kernel
theorem dX12_takesData_89 : decode cX12_takesData 89 = .ok (.aload_n 0, 1) := by decide +kernel
theorem dX12_takesData_90 : decode cX12_takesData 90 = .ok (.getfield 290, 3) := by decide +kernel
theorem dX12_takesData_93 : decode cX12_takesData 93 = .ok (.putfield 290, 3) := by decide +kernel
theorem dX12_takesData_96 : decode cX12_takesData 96 = .ok (.aload_n 0, 1) := by decide +kernel
