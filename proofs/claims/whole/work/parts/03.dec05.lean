theorem dX12_clockGoes_25 : decode cX12_clockGoes 25 = .ok (.getfield 57, 3) := by decide +kernel
theorem dX12_clockGoes_28 : decode cX12_clockGoes 28 = .ok (.iconst 0, 1) := by decide +kernel
theorem dX12_clockGoes_29 : decode cX12_clockGoes 29 = .ok (.dup2, 1) := by decide +kernel
theorem dX12_clockGoes_30 : decode cX12_clockGoes 30 = .ok (.iaload, 1) := by decide +kernel
theorem dX12_clockGoes_31 : decode cX12_clockGoes 31 = .ok (.ldc_w 361, 3) := by decide +kernel
theorem dX12_clockGoes_34 : decode cX12_clockGoes 34 = .ok (.isub, 1) := by decide +kernel
theorem dX12_clockGoes_35 : decode cX12_clockGoes 35 = .ok (.iastore, 1) := by decide +kernel
theorem dX12_clockGoes_36 : decode cX12_clockGoes 36 = .ok (.aload_n 0, 1) := by decide +kernel
theorem dX12_clockGoes_37 : decode cX12_clockGoes 37 = .ok (.getfield 57, 3) := by decide +kernel
theorem dX12_clockGoes_40 : decode cX12_clockGoes 40 = .ok (.iconst 1, 1) := by decide +kernel
theorem dX12_clockGoes_41 : decode cX12_clockGoes 41 = .ok (.dup2, 1) := by decide +kernel
theorem dX12_clockGoes_42 : decode cX12_clockGoes 42 = .ok (.iaload, 1) := by decide +kernel
theorem dX12_clockGoes_43 : decode cX12_clockGoes 43 = .ok (.iconst 1, 1) := by decide +kernel
theorem dX12_clockGoes_44 : decode cX12_clockGoes 44 = .ok (.iadd, 1) := by decide +kernel
theorem dX12_clockGoes_45 : decode cX12_clockGoes 45 = .ok (.iastore, 1) := by decide +kernel
theorem dX12_clockGoes_46 : decode cX12_clockGoes 46 = .ok (.aload_n 0, 1) := by decide +kernel
theorem dX12_clockGoes_47 : decode cX12_clockGoes 47 = .ok (.getfield 57, 3) := by decide +kernel
theorem dX12_clockGoes_50 : decode cX12_clockGoes 50 = .ok (.iconst 1, 1) := by decide +kernel
theorem dX12_clockGoes_51 : decode cX12_clockGoes 51 = .ok (.iaload, 1) := by decide +kernel
theorem dX12_clockGoes_52 : decode cX12_clockGoes 52 = .ok (.bipush 60, 2) := by decide +kernel
theorem dX12_clockGoes_54 : decode cX12_clockGoes 54 = .ok (.if_icmp .ge 4, 3) := by decide +kernel
theorem dX12_clockGoes_57 : decode cX12_clockGoes 57 = .ok (.return_, 1) := by decide +kernel
theorem dX12_clockGoes_58 : decode cX12_clockGoes 58 = .ok (.aload_n 0, 1) := by decide +kernel
theorem dX12_clockGoes_59 : decode cX12_clockGoes 59 = .ok (.getfield 57, 3) := by decide +kernel
theorem dX12_clockGoes_62 : decode cX12_clockGoes 62 = .ok (.iconst 1, 1) := by decide +kernel
theorem dX12_clockGoes_63 : decode cX12_clockGoes 63 = .ok (.iconst 0, 1) := by decide +kernel
theorem dX12_clockGoes_64 : decode cX12_clockGoes 64 = .ok (.iastore, 1) := by decide +kernel
theorem dX12_clockGoes_65 : decode cX12_clockGoes 65 = .ok (.aload_n 0, 1) := by decide +kernel
theorem dX12_clockGoes_66 : decode cX12_clockGoes 66 = .ok (.getfield 57, 3) := by decide +kernel
theorem dX12_clockGoes_69 : decode cX12_clockGoes 69 = .ok (.iconst 2, 1) := by decide +kernel
theorem dX12_clockGoes_70 : decode cX12_clockGoes 70 = .ok (.dup2, 1) := by decide +kernel
theorem dX12_clockGoes_71 : decode cX12_clockGoes 71 = .ok (.iaload, 1) := by decide +kernel
theorem dX12_clockGoes_72 : decode cX12_clockGoes 72 = .ok (.iconst 1, 1) := by decide +kernel
theorem dX12_clockGoes_73 : decode cX12_clockGoes 73 = .ok (.iadd, 1) := by decide +kernel
theorem dX12_clockGoes_74 : decode cX12_clockGoes 74 = .ok (.iastore, 1) := by decide +kernel
theorem dX12_clockGoes_75 : decode cX12_clockGoes 75 = .ok (.aload_n 0, 1) := by decide +kernel
theorem dX12_clockGoes_76 : decode cX12_clockGoes 76 = .ok (.getfield 57, 3) := by decide +kernel
theorem dX12_clockGoes_79 : decode cX12_clockGoes 79 = .ok (.iconst 2, 1) := by decide +kernel
theorem dX12_clockGoes_80 : decode cX12_clockGoes 80 = .ok (.iaload, 1) := by decide +kernel
theorem dX12_clockGoes_81 : decode cX12_clockGoes 81 = .ok (.bipush 24, 2) := by decide +kernel
theorem dX12_clockGoes_83 : decode cX12_clockGoes 83 = .ok (.if_icmp .ge 4, 3) := by decide +kernel
theorem dX12_clockGoes_86 : decode cX12_clockGoes 86 = .ok (.return_, 1) := by decide +kernel
theorem dX12_clockGoes_87 : decode cX12_clockGoes 87 = .ok (.aload_n 0, 1) := by decide +kernel
theorem dX12_clockGoes_88 : decode cX12_clockGoes 88 = .ok (.getfield 57, 3) := by decide +kernel
theorem dX12_clockGoes_91 : decode cX12_clockGoes 91 = .ok (.iconst 2, 1) := by decide +kernel
theorem dX12_clockGoes_92 : decode cX12_clockGoes 92 = .ok (.iconst 0, 1) := by decide +kernel
theorem dX12_clockGoes_93 : decode cX12_clockGoes 93 = .ok (.iastore, 1) := by decide +kernel
theorem dX12_clockGoes_94 : decode cX12_clockGoes 94 = .ok (.aload_n 0, 1) := by decide +kernel
theorem dX12_clockGoes_95 : decode cX12_clockGoes 95 = .ok (.getfield 57, 3) := by decide +kernel
theorem dX12_clockGoes_98 : decode cX12_clockGoes 98 = .ok (.iconst 3, 1) := by decide +kernel
theorem dX12_clockGoes_99 : decode cX12_clockGoes 99 = .ok (.dup2, 1) := by decide +kernel
theorem dX12_clockGoes_100 : decode cX12_clockGoes 100 = .ok (.iaload, 1) := by decide +kernel
theorem dX12_clockGoes_101 : decode cX12_clockGoes 101 = .ok (.iconst 1, 1) := by decide +kernel
theorem dX12_clockGoes_102 : decode cX12_clockGoes 102 = .ok (.iadd, 1) := by decide +kernel
theorem dX12_clockGoes_103 : decode cX12_clockGoes 103 = .ok (.iastore, 1) := by decide +kernel
theorem dX12_clockGoes_104 : decode cX12_clockGoes 104 = .ok (.aload_n 0, 1) := by decide +kernel
theorem dX12_clockGoes_105 : decode cX12_clockGoes 105 = .ok (.getfield 57, 3) := by decide +kernel
theorem dX12_clockGoes_108 : decode cX12_clockGoes 108 = .ok (.iconst 3, 1) := by decide +kernel
theorem dX12_clockGoes_109 : decode cX12_clockGoes 109 = .ok (.iaload, 1) := by decide +kernel
theorem dX12_clockGoes_110 : decode cX12_clockGoes 110 = .ok (.aload_n 0, 1) := by decide +kernel
theorem dX12_clockGoes_111 : decode cX12_clockGoes 111 = .ok (.getfield 57, 3) := by decide +kernel
theorem dX12_clockGoes_114 : decode cX12_clockGoes 114 = .ok (.iconst 4, 1) := by decide +kernel
theorem dX12_clockGoes_115 : decode cX12_clockGoes 115 = .ok (.iaload, 1) := by decide +kernel
theorem dX12_clockGoes_116 : decode cX12_clockGoes 116 = .ok (.aload_n 0, 1) := by decide +kernel
theorem dX12_clockGoes_117 : decode cX12_clockGoes 117 = .ok (.getfield 57, 3) := by decide +kernel
theorem dX12_clockGoes_120 : decode cX12_clockGoes 120 = .ok (.iconst 5, 1) := by decide +kernel
theorem dX12_clockGoes_121 : decode cX12_clockGoes 121 = .ok (.iaload, 1) := by decide +kernel
theorem dX12_clockGoes_122 : decode cX12_clockGoes 122 = .ok (.invokestatic 362, 3) := by decide +kernel
theorem dX12_clockGoes_125 : decode cX12_clockGoes 125 = .ok (.if_icmp .gt 4, 3) := by decide +kernel
theorem dX12_clockGoes_128 : decode cX12_clockGoes 128 = .ok (.return_, 1) := by decide +kernel
theorem dX12_clockGoes_129 : decode cX12_clockGoes 129 = .ok (.aload_n 0, 1) := by decide +kernel
theorem dX12_clockGoes_130 : decode cX12_clockGoes 130 = .ok (.getfield 57, 3) := by decide +kernel
theorem dX12_clockGoes_133 : decode cX12_clockGoes 133 = .ok (.iconst 3, 1) := by decide +kernel
theorem dX12_clockGoes_134 : decode cX12_clockGoes 134 = .ok (.iconst 1, 1) := by decide +kernel
theorem dX12_clockGoes_135 : decode cX12_clockGoes 135 = .ok (.iastore, 1) := by decide +kernel
theorem dX12_clockGoes_136 : decode cX12_clockGoes 136 = .ok (.aload_n 0, 1) := by decide +kernel
theorem dX12_clockGoes_137 : decode cX12_clockGoes 137 = .ok (.getfield 57, 3) := by decide +kernel
theorem dX12_clockGoes_140 : decode cX12_clockGoes 140 = .ok (.iconst 4, 1) := by decide +kernel
theorem dX12_clockGoes_141 : decode cX12_clockGoes 141 = .ok (.dup2, 1) := by decide +kernel
theorem dX12_clockGoes_142 : decode cX12_clockGoes 142 = .ok (.iaload, 1) := by decide +kernel
theorem dX12_clockGoes_143 : decode cX12_clockGoes 143 = .ok (.iconst 1, 1) := by decide +kernel
theorem dX12_clockGoes_144 : decode cX12_clockGoes 144 = .ok (.iadd, 1) := by decide +kernel
theorem dX12_clockGoes_145 : decode cX12_clockGoes 145 = .ok (.iastore, 1) := by decide +kernel
theorem dX12_clockGoes_146 : decode cX12_clockGoes 146 = .ok (.aload_n 0, 1) := by decide +kernel
theorem dX12_clockGoes_147 : decode cX12_clockGoes 147 = .ok (.getfield 57, 3) := by decide +kernel
theorem dX12_clockGoes_150 : decode cX12_clockGoes 150 = .ok (.iconst 4, 1) := by decide +kernel
theorem dX12_clockGoes_151 : decode cX12_clockGoes 151 = .ok (.iaload, 1) := by decide +kernel
theorem dX12_clockGoes_152 : decode cX12_clockGoes 152 = .ok (.bipush 12, 2) := by decide +kernel
theorem dX12_clockGoes_154 : decode cX12_clockGoes 154 = .ok (.if_icmp .le 27, 3) := by decide +kernel
theorem dX12_clockGoes_157 : decode cX12_clockGoes 157 = .ok (.aload_n 0, 1) := by decide +kernel
theorem dX12_clockGoes_158 : decode cX12_clockGoes 158 = .ok (.getfield 57, 3) := by decide +kernel
theorem dX12_clockGoes_161 : decode cX12_clockGoes 161 = .ok (.iconst 4, 1) := by decide +kernel
theorem dX12_clockGoes_162 : decode cX12_clockGoes 162 = .ok (.iconst 1, 1) := by decide +kernel
theorem dX12_clockGoes_163 : decode cX12_clockGoes 163 = .ok (.iastore, 1) := by decide +kernel
theorem dX12_clockGoes_164 : decode cX12_clockGoes 164 = .ok (.aload_n 0, 1) := by decide +kernel
theorem dX12_clockGoes_165 : decode cX12_clockGoes 165 = .ok (.getfield 57, 3) := by decide +kernel
theorem dX12_clockGoes_168 : decode cX12_clockGoes 168 = .ok (.iconst 5, 1) := by decide +kernel
theorem dX12_clockGoes_169 : decode cX12_clockGoes 169 = .ok (.aload_n 0, 1) := by decide +kernel
theorem dX12_clockGoes_170 : decode cX12_clockGoes 170 = .ok (.getfield 57, 3) := by decide +kernel
theorem dX12_clockGoes_173 : decode cX12_clockGoes 173 = .ok (.iconst 5, 1) := by decide +kernel
theorem dX12_clockGoes_174 : decode cX12_clockGoes 174 = .ok (.iaload, 1) := by decide +kernel
theorem dX12_clockGoes_175 : decode cX12_clockGoes 175 = .ok (.iconst 1, 1) := by decide +kernel
theorem dX12_clockGoes_176 : decode cX12_clockGoes 176 = .ok (.iadd, 1) := by decide +kernel
theorem dX12_clockGoes_177 : decode cX12_clockGoes 177 = .ok (.bipush 100, 2) := by decide +kernel
theorem dX12_clockGoes_179 : decode cX12_clockGoes 179 = .ok (.irem, 1) := by decide +kernel
theorem dX12_clockGoes_180 : decode cX12_clockGoes 180 = .ok (.iastore, 1) := by decide +kernel
theorem dX12_clockGoes_181 : decode cX12_clockGoes 181 = .ok (.return_, 1) := by decide +kernel
theorem dX12_tickGoes_0 : decode cX12_tickGoes 0 = .ok (.aload_n 0, 1) := by decide +kernel
theorem dX12_tickGoes_1 : decode cX12_tickGoes 1 = .ok (.dup, 1) := by decide +kernel
theorem dX12_tickGoes_2 : decode cX12_tickGoes 2 = .ok (.getfield 209, 3) := by decide +kernel
theorem dX12_tickGoes_5 : decode cX12_tickGoes 5 = .ok (.iconst 1, 1) := by decide +kernel
theorem dX12_tickGoes_6 : decode cX12_tickGoes 6 = .ok (.iadd, 1) := by decide +kernel
theorem dX12_tickGoes_7 : decode cX12_tickGoes 7 = .ok (.putfield 209, 3) := by decide +kernel
theorem dX12_tickGoes_10 : decode cX12_tickGoes 10 = .ok (.aload_n 0, 1) := by decide +kernel
theorem dX12_tickGoes_11 : decode cX12_tickGoes 11 = .ok (.invokevirtual 366, 3) := by decide +kernel
theorem dX12_tickGoes_14 : decode cX12_tickGoes 14 = .ok (.aload_n 0, 1) := by decide +kernel
theorem dX12_tickGoes_15 : decode cX12_tickGoes 15 = .ok (.getfield 125, 3) := by decide +kernel
theorem dX12_tickGoes_18 : decode cX12_tickGoes 18 = .ok (.ifCond .ne 4, 3) := by decide +kernel
theorem dX12_tickGoes_21 : decode cX12_tickGoes 21 = .ok (.return_, 1) := by decide +kernel
theorem dX12_tickGoes_22 : decode cX12_tickGoes 22 = .ok (.aload_n 0, 1) := by decide +kernel
theorem dX12_tickGoes_23 : decode cX12_tickGoes 23 = .ok (.getfield 206, 3) := by decide +kernel
theorem dX12_tickGoes_26 : decode cX12_tickGoes 26 = .ok (.ifCond .le 23, 3) := by decide +kernel
theorem dX12_tickGoes_29 : decode cX12_tickGoes 29 = .ok (.aload_n 0, 1) := by decide +kernel
theorem dX12_tickGoes_30 : decode cX12_tickGoes 30 = .ok (.getfield 209, 3) := by decide +kernel
theorem dX12_tickGoes_33 : decode cX12_tickGoes 33 = .ok (.aload_n 0, 1) := by decide +kernel
theorem dX12_tickGoes_34 : decode cX12_tickGoes 34 = .ok (.getfield 72, 3) := by decide +kernel
theorem dX12_tickGoes_37 : decode cX12_tickGoes 37 = .ok (.iconst 0, 1) := by decide +kernel
theorem dX12_tickGoes_38 : decode cX12_tickGoes 38 = .ok (.iaload, 1) := by decide +kernel
theorem dX12_tickGoes_39 : decode cX12_tickGoes 39 = .ok (.isub, 1) := by decide +kernel
theorem dX12_tickGoes_40 : decode cX12_tickGoes 40 = .ok (.aload_n 0, 1) := by decide +kernel
theorem dX12_tickGoes_41 : decode cX12_tickGoes 41 = .ok (.getfield 7, 3) := by decide +kernel
theorem dX12_tickGoes_44 : decode cX12_tickGoes 44 = .ok (.iconst 3, 1) := by decide +kernel
theorem dX12_tickGoes_45 : decode cX12_tickGoes 45 = .ok (.iaload, 1) := by decide +kernel
theorem dX12_tickGoes_46 : decode cX12_tickGoes 46 = .ok (.if_icmp .ge 28, 3) := by decide +kernel
theorem dX12_tickGoes_49 : decode cX12_tickGoes 49 = .ok (.aload_n 0, 1) := by decide +kernel
theorem dX12_tickGoes_50 : decode cX12_tickGoes 50 = .ok (.getfield 258, 3) := by decide +kernel
theorem dX12_tickGoes_53 : decode cX12_tickGoes 53 = .ok (.ifCond .eq 27, 3) := by decide +kernel
theorem dX12_tickGoes_56 : decode cX12_tickGoes 56 = .ok (.aload_n 0, 1) := by decide +kernel
theorem dX12_tickGoes_57 : decode cX12_tickGoes 57 = .ok (.getfield 209, 3) := by decide +kernel
theorem dX12_tickGoes_60 : decode cX12_tickGoes 60 = .ok (.aload_n 0, 1) := by decide +kernel
theorem dX12_tickGoes_61 : decode cX12_tickGoes 61 = .ok (.getfield 369, 3) := by decide +kernel
theorem dX12_tickGoes_64 : decode cX12_tickGoes 64 = .ok (.isub, 1) := by decide +kernel
theorem dX12_tickGoes_65 : decode cX12_tickGoes 65 = .ok (.aload_n 0, 1) := by decide +kernel
theorem dX12_tickGoes_66 : decode cX12_tickGoes 66 = .ok (.getfield 7, 3) := by decide +kernel
theorem dX12_tickGoes_69 : decode cX12_tickGoes 69 = .ok (.iconst 3, 1) := by decide +kernel
theorem dX12_tickGoes_70 : decode cX12_tickGoes 70 = .ok (.iaload, 1) := by decide +kernel
theorem dX12_tickGoes_71 : decode cX12_tickGoes 71 = .ok (.if_icmp .lt 9, 3) := by decide +kernel
theorem dX12_tickGoes_74 : decode cX12_tickGoes 74 = .ok (.aload_n 0, 1) := by decide +kernel
theorem dX12_tickGoes_75 : decode cX12_tickGoes 75 = .ok (.iconst 4, 1) := by decide +kernel
theorem dX12_tickGoes_76 : decode cX12_tickGoes 76 = .ok (.invokevirtual 175, 3) := by decide +kernel
theorem dX12_tickGoes_79 : decode cX12_tickGoes 79 = .ok (.return_, 1) := by decide +kernel
theorem dX12_tickGoes_80 : decode cX12_tickGoes 80 = .ok (.aload_n 0, 1) := by decide +kernel
theorem dX12_tickGoes_81 : decode cX12_tickGoes 81 = .ok (.getfield 182, 3) := by decide +kernel
theorem dX12_tickGoes_84 : decode cX12_tickGoes 84 = .ok (.aload_n 0, 1) := by decide +kernel
theorem dX12_tickGoes_85 : decode cX12_tickGoes 85 = .ok (.getfield 197, 3) := by decide +kernel
theorem dX12_tickGoes_88 : decode cX12_tickGoes 88 = .ok (.if_icmp .le 25, 3) := by decide +kernel
theorem dX12_tickGoes_91 : decode cX12_tickGoes 91 = .ok (.aload_n 0, 1) := by decide +kernel
theorem dX12_tickGoes_92 : decode cX12_tickGoes 92 = .ok (.getfield 209, 3) := by decide +kernel
theorem dX12_tickGoes_95 : decode cX12_tickGoes 95 = .ok (.aload_n 0, 1) := by decide +kernel
theorem dX12_tickGoes_96 : decode cX12_tickGoes 96 = .ok (.getfield 290, 3) := by decide +kernel
theorem dX12_tickGoes_99 : decode cX12_tickGoes 99 = .ok (.isub, 1) := by decide +kernel
theorem dX12_tickGoes_100 : decode cX12_tickGoes 100 = .ok (.aload_n 0, 1) := by decide +kernel
theorem dX12_tickGoes_101 : decode cX12_tickGoes 101 = .ok (.getfield 7, 3) := by decide +kernel
theorem dX12_tickGoes_104 : decode cX12_tickGoes 104 = .ok (.iconst 4, 1) := by decide +kernel
theorem dX12_tickGoes_105 : decode cX12_tickGoes 105 = .ok (.iaload, 1) := by decide +kernel
theorem dX12_tickGoes_106 : decode cX12_tickGoes 106 = .ok (.if_icmp .lt 7, 3) := by decide +kernel
theorem dX12_tickGoes_109 : decode cX12_tickGoes 109 = .ok (.aload_n 0, 1) := by decide +kernel
theorem dX12_tickGoes_110 : decode cX12_tickGoes 110 = .ok (.invokevirtual 287, 3) := by decide +kernel
theorem dX12_tickGoes_113 : decode cX12_tickGoes 113 = .ok (.aload_n 0, 1) := by decide +kernel
theorem dX12_tickGoes_114 : decode cX12_tickGoes 114 = .ok (.getfield 125, 3) := by decide +kernel
theorem dX12_tickGoes_117 : decode cX12_tickGoes 117 = .ok (.ifCond .eq 62, 3) := by decide +kernel
theorem dX12_tickGoes_120 : decode cX12_tickGoes 120 = .ok (.aload_n 0, 1) := by decide +kernel
theorem dX12_tickGoes_121 : decode cX12_tickGoes 121 = .ok (.getfield 258, 3) := by decide +kernel
theorem dX12_tickGoes_124 : decode cX12_tickGoes 124 = .ok (.ifCond .ne 55, 3) := by decide +kernel
theorem dX12_tickGoes_127 : decode cX12_tickGoes 127 = .ok (.aload_n 0, 1) := by decide +kernel
theorem dX12_tickGoes_128 : decode cX12_tickGoes 128 = .ok (.getfield 209, 3) := by decide +kernel
theorem dX12_tickGoes_131 : decode cX12_tickGoes 131 = .ok (.aload_n 0, 1) := by decide +kernel
theorem dX12_tickGoes_132 : decode cX12_tickGoes 132 = .ok (.getfield 261, 3) := by decide +kernel
theorem dX12_tickGoes_135 : decode cX12_tickGoes 135 = .ok (.isub, 1) := by decide +kernel
theorem dX12_tickGoes_136 : decode cX12_tickGoes 136 = .ok (.aload_n 0, 1) := by decide +kernel
theorem dX12_tickGoes_137 : decode cX12_tickGoes 137 = .ok (.getfield 7, 3) := by decide +kernel
theorem dX12_tickGoes_140 : decode cX12_tickGoes 140 = .ok (.iconst 5, 1) := by decide +kernel
theorem dX12_tickGoes_141 : decode cX12_tickGoes 141 = .ok (.iaload, 1) := by decide +kernel
theorem dX12_tickGoes_142 : decode cX12_tickGoes 142 = .ok (.if_icmp .lt 37, 3) := by decide +kernel
theorem dX12_tickGoes_145 : decode cX12_tickGoes 145 = .ok (.aload_n 0, 1) := by decide +kernel
theorem dX12_tickGoes_146 : decode cX12_tickGoes 146 = .ok (.bipush 67, 2) := by decide +kernel
theorem dX12_tickGoes_148 : decode cX12_tickGoes 148 = .ok (.iconst 0, 1) := by decide +kernel
theorem dX12_tickGoes_149 : decode cX12_tickGoes 149 = .ok (.iconst 0, 1) := by decide +kernel
theorem dX12_tickGoes_150 : decode cX12_tickGoes 150 = .ok (.iconst 0, 1) := by decide +kernel
theorem dX12_tickGoes_151 : decode cX12_tickGoes 151 = .ok (.iconst 0, 1) := by decide +kernel
theorem dX12_tickGoes_152 : decode cX12_tickGoes 152 = .ok (.invokevirtual 193, 3) := by decide +kernel
theorem dX12_tickGoes_155 : decode cX12_tickGoes 155 = .ok (.ifCond .eq 24, 3) := by decide +kernel
theorem dX12_tickGoes_158 : decode cX12_tickGoes 158 = .ok (.aload_n 0, 1) := by decide +kernel
theorem dX12_tickGoes_159 : decode cX12_tickGoes 159 = .ok (.iconst 1, 1) := by decide +kernel
theorem dX12_tickGoes_160 : decode cX12_tickGoes 160 = .ok (.putfield 258, 3) := by decide +kernel
theorem dX12_tickGoes_163 : decode cX12_tickGoes 163 = .ok (.aload_n 0, 1) := by decide +kernel
theorem dX12_tickGoes_164 : decode cX12_tickGoes 164 = .ok (.aload_n 0, 1) := by decide +kernel
theorem dX12_tickGoes_165 : decode cX12_tickGoes 165 = .ok (.getfield 209, 3) := by decide +kernel
theorem dX12_tickGoes_168 : decode cX12_tickGoes 168 = .ok (.putfield 369, 3) := by decide +kernel
theorem dX12_tickGoes_171 : decode cX12_tickGoes 171 = .ok (.aload_n 0, 1) := by decide +kernel
theorem dX12_tickGoes_172 : decode cX12_tickGoes 172 = .ok (.aload_n 0, 1) := by decide +kernel
theorem dX12_tickGoes_173 : decode cX12_tickGoes 173 = .ok (.getfield 209, 3) := by decide +kernel
theorem dX12_tickGoes_176 : decode cX12_tickGoes 176 = .ok (.putfield 261, 3) := by decide +kernel
theorem dX12_tickGoes_179 : decode cX12_tickGoes 179 = .ok (.aload_n 0, 1) := by decide +kernel
theorem dX12_tickGoes_180 : decode cX12_tickGoes 180 = .ok (.getfield 50, 3) := by decide +kernel
theorem dX12_tickGoes_183 : decode cX12_tickGoes 183 = .ok (.iconst (-1), 1) := by decide +kernel
theorem dX12_tickGoes_184 : decode cX12_tickGoes 184 = .ok (.if_icmp .eq 27, 3) := by decide +kernel
theorem dX12_tickGoes_187 : decode cX12_tickGoes 187 = .ok (.aload_n 0, 1) := by decide +kernel
theorem dX12_tickGoes_188 : decode cX12_tickGoes 188 = .ok (.getfield 209, 3) := by decide +kernel
theorem dX12_tickGoes_191 : decode cX12_tickGoes 191 = .ok (.aload_n 0, 1) := by decide +kernel
theorem dX12_tickGoes_192 : decode cX12_tickGoes 192 = .ok (.getfield 333, 3) := by decide +kernel
theorem dX12_tickGoes_195 : decode cX12_tickGoes 195 = .ok (.isub, 1) := by decide +kernel
theorem dX12_tickGoes_196 : decode cX12_tickGoes 196 = .ok (.aload_n 0, 1) := by decide +kernel
theorem dX12_tickGoes_197 : decode cX12_tickGoes 197 = .ok (.getfield 7, 3) := by decide +kernel
theorem dX12_tickGoes_200 : decode cX12_tickGoes 200 = .ok (.bipush 6, 2) := by decide +kernel
theorem dX12_tickGoes_202 : decode cX12_tickGoes 202 = .ok (.iaload, 1) := by decide +kernel
theorem dX12_tickGoes_203 : decode cX12_tickGoes 203 = .ok (.if_icmp .lt 8, 3) := by decide +kernel
theorem dX12_tickGoes_206 : decode cX12_tickGoes 206 = .ok (.aload_n 0, 1) := by decide +kernel
theorem dX12_tickGoes_207 : decode cX12_tickGoes 207 = .ok (.iconst (-1), 1) := by decide +kernel
theorem dX12_tickGoes_208 : decode cX12_tickGoes 208 = .ok (.putfield 50, 3) := by decide +kernel
theorem dX12_tickGoes_211 : decode cX12_tickGoes 211 = .ok (.aload_n 0, 1) := by decide +kernel
theorem dX12_tickGoes_212 : decode cX12_tickGoes 212 = .ok (.invokevirtual 165, 3) := by decide +kernel
theorem dX12_tickGoes_215 : decode cX12_tickGoes 215 = .ok (.return_, 1) := by decide +kernel
theorem dX12_tick_0 : decode cX12_tick 0 = .ok (.iload_n 1, 1) := by decide +kernel
theorem dX12_tick_1 : decode cX12_tick 1 = .ok (.i2l, 1) := by decide +kernel
theorem dX12_tick_2 : decode cX12_tick 2 = .ok (.lconst 0, 1) := by decide +kernel
theorem dX12_tick_3 : decode cX12_tick 3 = .ok (.ldc2_w 123, 3) := by decide +kernel
theorem dX12_tick_6 : decode cX12_tick 6 = .ok (.invokestatic 111, 3) := by decide +kernel
theorem dX12_tick_9 : decode cX12_tick 9 = .ok (.ifCond .ne 5, 3) := by decide +kernel
theorem dX12_tick_12 : decode cX12_tick 12 = .ok (.iconst (-1), 1) := by decide +kernel
theorem dX12_tick_13 : decode cX12_tick 13 = .ok (.ireturn, 1) := by decide +kernel
theorem dX12_tick_14 : decode cX12_tick 14 = .ok (.iconst 0, 1) := by decide +kernel
theorem dX12_tick_15 : decode cX12_tick 15 = .ok (.istore_n 2, 1) := by decide +kernel
theorem dX12_tick_16 : decode cX12_tick 16 = .ok (.iload_n 2, 1) := by decide +kernel
theorem dX12_tick_17 : decode cX12_tick 17 = .ok (.iload_n 1, 1) := by decide +kernel
theorem dX12_tick_18 : decode cX12_tick 18 = .ok (.if_icmp .ge 13, 3) := by decide +kernel
theorem dX12_tick_21 : decode cX12_tick 21 = .ok (.aload_n 0, 1) := by decide +kernel
theorem dX12_tick_22 : decode cX12_tick 22 = .ok (.invokevirtual 372, 3) := by decide +kernel
theorem dX12_tick_25 : decode cX12_tick 25 = .ok (.iinc 2 1, 3) := by decide +kernel
theorem dX12_tick_28 : decode cX12_tick 28 = .ok (.goto (-12), 3) := by decide +kernel
theorem dX12_tick_31 : decode cX12_tick 31 = .ok (.aload_n 0, 1) := by decide +kernel
theorem dX12_tick_32 : decode cX12_tick 32 = .ok (.getfield 125, 3) := by decide +kernel
theorem dX12_tick_35 : decode cX12_tick 35 = .ok (.ireturn, 1) := by decide +kernel
theorem dX12_out_0 : decode cX12_out 0 = .ok (.iload_n 1, 1) := by decide +kernel
theorem dX12_out_1 : decode cX12_out 1 = .ok (.i2l, 1) := by decide +kernel
theorem dX12_out_2 : decode cX12_out 2 = .ok (.lconst 0, 1) := by decide +kernel
theorem dX12_out_3 : decode cX12_out 3 = .ok (.aload_n 0, 1) := by decide +kernel
theorem dX12_out_4 : decode cX12_out 4 = .ok (.getfield 172, 3) := by decide +kernel
theorem dX12_out_7 : decode cX12_out 7 = .ok (.iconst 1, 1) := by decide +kernel
theorem dX12_out_8 : decode cX12_out 8 = .ok (.isub, 1) := by decide +kernel
theorem dX12_out_9 : decode cX12_out 9 = .ok (.i2l, 1) := by decide +kernel
theorem dX12_out_10 : decode cX12_out 10 = .ok (.invokestatic 111, 3) := by decide +kernel
theorem dX12_out_13 : decode cX12_out 13 = .ok (.ifCond .eq 12, 3) := by decide +kernel
theorem dX12_out_16 : decode cX12_out 16 = .ok (.aload_n 0, 1) := by decide +kernel
theorem dX12_out_17 : decode cX12_out 17 = .ok (.getfield 96, 3) := by decide +kernel
theorem dX12_out_20 : decode cX12_out 20 = .ok (.iload_n 1, 1) := by decide +kernel
theorem dX12_out_21 : decode cX12_out 21 = .ok (.iaload, 1) := by decide +kernel
theorem dX12_out_22 : decode cX12_out 22 = .ok (.goto 4, 3) := by decide +kernel
theorem dX12_out_25 : decode cX12_out 25 = .ok (.iconst (-1), 1) := by decide +kernel
theorem dX12_out_26 : decode cX12_out 26 = .ok (.ireturn, 1) := by decide +kernel
theorem dX12_take_0 : decode cX12_take 0 = .ok (.iload_n 1, 1) := by decide +kernel
theorem dX12_take_1 : decode cX12_take 1 = .ok (.i2l, 1) := by decide +kernel
theorem dX12_take_2 : decode cX12_take 2 = .ok (.lconst 0, 1) := by decide +kernel
theorem dX12_take_3 : decode cX12_take 3 = .ok (.aload_n 0, 1) := by decide +kernel
theorem dX12_take_4 : decode cX12_take 4 = .ok (.getfield 172, 3) := by decide +kernel
theorem dX12_take_7 : decode cX12_take 7 = .ok (.i2l, 1) := by decide +kernel
theorem dX12_take_8 : decode cX12_take 8 = .ok (.invokestatic 111, 3) := by decide +kernel
theorem dX12_take_11 : decode cX12_take 11 = .ok (.ifCond .ne 5, 3) := by decide +kernel
theorem dX12_take_14 : decode cX12_take 14 = .ok (.iconst (-1), 1) := by decide +kernel
theorem dX12_take_15 : decode cX12_take 15 = .ok (.ireturn, 1) := by decide +kernel
theorem dX12_take_16 : decode cX12_take 16 = .ok (.aload_n 0, 1) := by decide +kernel
theorem dX12_take_17 : decode cX12_take 17 = .ok (.dup, 1) := by decide +kernel
theorem dX12_take_18 : decode cX12_take 18 = .ok (.getfield 172, 3) := by decide +kernel
theorem dX12_take_21 : decode cX12_take 21 = .ok (.iload_n 1, 1) := by decide +kernel
theorem dX12_take_22 : decode cX12_take 22 = .ok (.isub, 1) := by decide +kernel
theorem dX12_take_23 : decode cX12_take 23 = .ok (.putfield 172, 3) := by decide +kernel
theorem dX12_take_26 : decode cX12_take 26 = .ok (.iconst 0, 1) := by decide +kernel
theorem dX12_take_27 : decode cX12_take 27 = .ok (.istore_n 2, 1) := by decide +kernel
theorem dX12_take_28 : decode cX12_take 28 = .ok (.iload_n 2, 1) := by decide +kernel
theorem dX12_take_29 : decode cX12_take 29 = .ok (.aload_n 0, 1) := by decide +kernel
theorem dX12_take_30 : decode cX12_take 30 = .ok (.getfield 172, 3) := by decide +kernel
theorem dX12_take_33 : decode cX12_take 33 = .ok (.if_icmp .ge 23, 3) := by decide +kernel
theorem dX12_take_36 : decode cX12_take 36 = .ok (.aload_n 0, 1) := by decide +kernel
theorem dX12_take_37 : decode cX12_take 37 = .ok (.getfield 96, 3) := by decide +kernel
theorem dX12_take_40 : decode cX12_take 40 = .ok (.iload_n 2, 1) := by decide +kernel
theorem dX12_take_41 : decode cX12_take 41 = .ok (.aload_n 0, 1) := by decide +kernel
theorem dX12_take_42 : decode cX12_take 42 = .ok (.getfield 96, 3) := by decide +kernel
theorem dX12_take_45 : decode cX12_take 45 = .ok (.iload_n 2, 1) := by decide +kernel
theorem dX12_take_46 : decode cX12_take 46 = .ok (.iload_n 1, 1) := by decide +kernel
theorem dX12_take_47 : decode cX12_take 47 = .ok (.iadd, 1) := by decide +kernel
theorem dX12_take_48 : decode cX12_take 48 = .ok (.iaload, 1) := by decide +kernel
theorem dX12_take_49 : decode cX12_take 49 = .ok (.iastore, 1) := by decide +kernel
theorem dX12_take_50 : decode cX12_take 50 = .ok (.iinc 2 1, 3) := by decide +kernel
theorem dX12_take_53 : decode cX12_take 53 = .ok (.goto (-25), 3) := by decide +kernel
theorem dX12_take_56 : decode cX12_take 56 = .ok (.aload_n 0, 1) := by decide +kernel
theorem dX12_take_57 : decode cX12_take 57 = .ok (.getfield 172, 3) := by decide +kernel
theorem dX12_take_60 : decode cX12_take 60 = .ok (.ireturn, 1) := by decide +kernel
theorem dX12_told_0 : decode cX12_told 0 = .ok (.aload_n 0, 1) := by decide +kernel
theorem dX12_told_1 : decode cX12_told 1 = .ok (.iload_n 1, 1) := by decide +kernel
theorem dX12_told_2 : decode cX12_told 2 = .ok (.invokevirtual 141, 3) := by decide +kernel
theorem dX12_told_5 : decode cX12_told 5 = .ok (.ifCond .ne 5, 3) := by decide +kernel
theorem dX12_told_8 : decode cX12_told 8 = .ok (.iconst 0, 1) := by decide +kernel
theorem dX12_told_9 : decode cX12_told 9 = .ok (.ireturn, 1) := by decide +kernel
theorem dX12_told_10 : decode cX12_told 10 = .ok (.iload_n 2, 1) := by decide +kernel
theorem dX12_told_11 : decode cX12_told 11 = .ok (.tableswitch 98 0 6 #[41, 48, 55, 62, 77, 84, 91], 41) := by decide +kernel
theorem dX12_told_52 : decode cX12_told 52 = .ok (.aload_n 0, 1) := by decide +kernel
theorem dX12_told_53 : decode cX12_told 53 = .ok (.getfield 13, 3) := by decide +kernel
theorem dX12_told_56 : decode cX12_told 56 = .ok (.iload_n 1, 1) := by decide +kernel
theorem dX12_told_57 : decode cX12_told 57 = .ok (.iaload, 1) := by decide +kernel
theorem dX12_told_58 : decode cX12_told 58 = .ok (.ireturn, 1) := by decide +kernel
theorem dX12_told_59 : decode cX12_told 59 = .ok (.aload_n 0, 1) := by decide +kernel
theorem dX12_told_60 : decode cX12_told 60 = .ok (.getfield 16, 3) := by decide +kernel
theorem dX12_told_63 : decode cX12_told 63 = .ok (.iload_n 1, 1) := by decide +kernel
theorem dX12_told_64 : decode cX12_told 64 = .ok (.iaload, 1) := by decide +kernel
theorem dX12_told_65 : decode cX12_told 65 = .ok (.ireturn, 1) := by decide +kernel
theorem dX12_told_66 : decode cX12_told 66 = .ok (.aload_n 0, 1) := by decide +kernel
theorem dX12_told_67 : decode cX12_told 67 = .ok (.getfield 19, 3) := by decide +kernel
theorem dX12_told_70 : decode cX12_told 70 = .ok (.iload_n 1, 1) := by decide +kernel
theorem dX12_told_71 : decode cX12_told 71 = .ok (.iaload, 1) := by decide +kernel
theorem dX12_told_72 : decode cX12_told 72 = .ok (.ireturn, 1) := by decide +kernel
theorem dX12_told_73 : decode cX12_told 73 = .ok (.aload_n 0, 1) := by decide +kernel
theorem dX12_told_74 : decode cX12_told 74 = .ok (.getfield 22, 3) := by decide +kernel
theorem dX12_told_77 : decode cX12_told 77 = .ok (.iload_n 1, 1) := by decide +kernel
theorem dX12_told_78 : decode cX12_told 78 = .ok (.baload, 1) := by decide +kernel
theorem dX12_told_79 : decode cX12_told 79 = .ok (.ifCond .eq 7, 3) := by decide +kernel
theorem dX12_told_82 : decode cX12_told 82 = .ok (.iconst 1, 1) := by decide +kernel
theorem dX12_told_83 : decode cX12_told 83 = .ok (.goto 4, 3) := by decide +kernel
theorem dX12_told_86 : decode cX12_told 86 = .ok (.iconst 0, 1) := by decide +kernel
theorem dX12_told_87 : decode cX12_told 87 = .ok (.ireturn, 1) := by decide +kernel
theorem dX12_told_88 : decode cX12_told 88 = .ok (.aload_n 0, 1) := by decide +kernel
theorem dX12_told_89 : decode cX12_told 89 = .ok (.getfield 26, 3) := by decide +kernel
theorem dX12_told_92 : decode cX12_told 92 = .ok (.iload_n 1, 1) := by decide +kernel
theorem dX12_told_93 : decode cX12_told 93 = .ok (.iaload, 1) := by decide +kernel
theorem dX12_told_94 : decode cX12_told 94 = .ok (.ireturn, 1) := by decide +kernel
theorem dX12_told_95 : decode cX12_told 95 = .ok (.aload_n 0, 1) := by decide +kernel
theorem dX12_told_96 : decode cX12_told 96 = .ok (.getfield 29, 3) := by decide +kernel
theorem dX12_told_99 : decode cX12_told 99 = .ok (.iload_n 1, 1) := by decide +kernel
theorem dX12_told_100 : decode cX12_told 100 = .ok (.iaload, 1) := by decide +kernel
theorem dX12_told_101 : decode cX12_told 101 = .ok (.ireturn, 1) := by decide +kernel
theorem dX12_told_102 : decode cX12_told 102 = .ok (.aload_n 0, 1) := by decide +kernel
theorem dX12_told_103 : decode cX12_told 103 = .ok (.getfield 32, 3) := by decide +kernel
theorem dX12_told_106 : decode cX12_told 106 = .ok (.iload_n 1, 1) := by decide +kernel
theorem dX12_told_107 : decode cX12_told 107 = .ok (.iaload, 1) := by decide +kernel
theorem dX12_told_108 : decode cX12_told 108 = .ok (.ireturn, 1) := by decide +kernel
theorem dX12_told_109 : decode cX12_told 109 = .ok (.iconst 0, 1) := by decide +kernel
theorem dX12_told_110 : decode cX12_told 110 = .ok (.ireturn, 1) := by decide +kernel
theorem dX12_ordered_0 : decode cX12_ordered 0 = .ok (.iload_n 1, 1) := by decide +kernel
theorem dX12_ordered_1 : decode cX12_ordered 1 = .ok (.i2l, 1) := by decide +kernel
theorem dX12_ordered_2 : decode cX12_ordered 2 = .ok (.lconst 0, 1) := by decide +kernel
theorem dX12_ordered_3 : decode cX12_ordered 3 = .ok (.aload_n 0, 1) := by decide +kernel
theorem dX12_ordered_4 : decode cX12_ordered 4 = .ok (.getfield 130, 3) := by decide +kernel
theorem dX12_ordered_7 : decode cX12_ordered 7 = .ok (.iconst 1, 1) := by decide +kernel
theorem dX12_ordered_8 : decode cX12_ordered 8 = .ok (.isub, 1) := by decide +kernel
theorem dX12_ordered_9 : decode cX12_ordered 9 = .ok (.i2l, 1) := by decide +kernel
theorem dX12_ordered_10 : decode cX12_ordered 10 = .ok (.invokestatic 111, 3) := by decide +kernel
theorem dX12_ordered_13 : decode cX12_ordered 13 = .ok (.ifCond .eq 15, 3) := by decide +kernel
theorem dX12_ordered_16 : decode cX12_ordered 16 = .ok (.iload_n 2, 1) := by decide +kernel
theorem dX12_ordered_17 : decode cX12_ordered 17 = .ok (.i2l, 1) := by decide +kernel
theorem dX12_ordered_18 : decode cX12_ordered 18 = .ok (.lconst 0, 1) := by decide +kernel
theorem dX12_ordered_19 : decode cX12_ordered 19 = .ok (.ldc2_w 139, 3) := by decide +kernel
theorem dX12_ordered_22 : decode cX12_ordered 22 = .ok (.invokestatic 111, 3) := by decide +kernel
theorem dX12_ordered_25 : decode cX12_ordered 25 = .ok (.ifCond .ne 5, 3) := by decide +kernel
theorem dX12_ordered_28 : decode cX12_ordered 28 = .ok (.iconst (-1), 1) := by decide +kernel
theorem dX12_ordered_29 : decode cX12_ordered 29 = .ok (.ireturn, 1) := by decide +kernel
theorem dX12_ordered_30 : decode cX12_ordered 30 = .ok (.aload_n 0, 1) := by decide +kernel
theorem dX12_ordered_31 : decode cX12_ordered 31 = .ok (.getfield 50, 3) := by decide +kernel
theorem dX12_ordered_34 : decode cX12_ordered 34 = .ok (.iload_n 1, 1) := by decide +kernel
theorem dX12_ordered_35 : decode cX12_ordered 35 = .ok (.if_icmp .ne 7, 3) := by decide +kernel
theorem dX12_ordered_38 : decode cX12_ordered 38 = .ok (.iconst 1, 1) := by decide +kernel
theorem dX12_ordered_39 : decode cX12_ordered 39 = .ok (.goto 4, 3) := by decide +kernel
theorem dX12_ordered_42 : decode cX12_ordered 42 = .ok (.iconst 0, 1) := by decide +kernel
theorem dX12_ordered_43 : decode cX12_ordered 43 = .ok (.istore_n 3, 1) := by decide +kernel
theorem dX12_ordered_44 : decode cX12_ordered 44 = .ok (.iload_n 2, 1) := by decide +kernel
theorem dX12_ordered_45 : decode cX12_ordered 45 = .ok (.ifCond .ne 15, 3) := by decide +kernel
theorem dX12_ordered_48 : decode cX12_ordered 48 = .ok (.iload_n 3, 1) := by decide +kernel
theorem dX12_ordered_49 : decode cX12_ordered 49 = .ok (.ifCond .eq 7, 3) := by decide +kernel
theorem dX12_ordered_52 : decode cX12_ordered 52 = .ok (.iconst 1, 1) := by decide +kernel
theorem dX12_ordered_53 : decode cX12_ordered 53 = .ok (.goto 46, 3) := by decide +kernel
theorem dX12_ordered_56 : decode cX12_ordered 56 = .ok (.iconst 0, 1) := by decide +kernel
theorem dX12_ordered_57 : decode cX12_ordered 57 = .ok (.goto 42, 3) := by decide +kernel
theorem dX12_ordered_60 : decode cX12_ordered 60 = .ok (.iload_n 2, 1) := by decide +kernel
theorem dX12_ordered_61 : decode cX12_ordered 61 = .ok (.iconst 1, 1) := by decide +kernel
theorem dX12_ordered_62 : decode cX12_ordered 62 = .ok (.if_icmp .ne 31, 3) := by decide +kernel
theorem dX12_ordered_65 : decode cX12_ordered 65 = .ok (.iload_n 3, 1) := by decide +kernel
theorem dX12_ordered_66 : decode cX12_ordered 66 = .ok (.ifCond .eq 23, 3) := by decide +kernel
theorem dX12_ordered_69 : decode cX12_ordered 69 = .ok (.aload_n 0, 1) := by decide +kernel
theorem dX12_ordered_70 : decode cX12_ordered 70 = .ok (.getfield 7, 3) := by decide +kernel
theorem dX12_ordered_73 : decode cX12_ordered 73 = .ok (.bipush 6, 2) := by decide +kernel
theorem dX12_ordered_75 : decode cX12_ordered 75 = .ok (.iaload, 1) := by decide +kernel
theorem dX12_ordered_76 : decode cX12_ordered 76 = .ok (.aload_n 0, 1) := by decide +kernel
theorem dX12_ordered_77 : decode cX12_ordered 77 = .ok (.getfield 209, 3) := by decide +kernel
theorem dX12_ordered_80 : decode cX12_ordered 80 = .ok (.aload_n 0, 1) := by decide +kernel
theorem dX12_ordered_81 : decode cX12_ordered 81 = .ok (.getfield 333, 3) := by decide +kernel
theorem dX12_ordered_84 : decode cX12_ordered 84 = .ok (.isub, 1) := by decide +kernel
theorem dX12_ordered_85 : decode cX12_ordered 85 = .ok (.isub, 1) := by decide +kernel
theorem dX12_ordered_86 : decode cX12_ordered 86 = .ok (.goto 13, 3) := by decide +kernel
theorem dX12_ordered_89 : decode cX12_ordered 89 = .ok (.iconst 0, 1) := by decide +kernel
theorem dX12_ordered_90 : decode cX12_ordered 90 = .ok (.goto 9, 3) := by decide +kernel
theorem dX12_ordered_93 : decode cX12_ordered 93 = .ok (.aload_n 0, 1) := by decide +kernel
theorem dX12_ordered_94 : decode cX12_ordered 94 = .ok (.getfield 47, 3) := by decide +kernel
theorem dX12_ordered_97 : decode cX12_ordered 97 = .ok (.iload_n 1, 1) := by decide +kernel
theorem dX12_ordered_98 : decode cX12_ordered 98 = .ok (.iaload, 1) := by decide +kernel
theorem dX12_ordered_99 : decode cX12_ordered 99 = .ok (.ireturn, 1) := by decide +kernel
theorem dX12_clock_0 : decode cX12_clock 0 = .ok (.iload_n 1, 1) := by decide +kernel
theorem dX12_clock_1 : decode cX12_clock 1 = .ok (.i2l, 1) := by decide +kernel
theorem dX12_clock_2 : decode cX12_clock 2 = .ok (.lconst 0, 1) := by decide +kernel
theorem dX12_clock_3 : decode cX12_clock 3 = .ok (.ldc2_w 375, 3) := by decide +kernel
theorem dX12_clock_6 : decode cX12_clock 6 = .ok (.invokestatic 111, 3) := by decide +kernel
theorem dX12_clock_9 : decode cX12_clock 9 = .ok (.ifCond .eq 12, 3) := by decide +kernel
theorem dX12_clock_12 : decode cX12_clock 12 = .ok (.aload_n 0, 1) := by decide +kernel
theorem dX12_clock_13 : decode cX12_clock 13 = .ok (.getfield 57, 3) := by decide +kernel
theorem dX12_clock_16 : decode cX12_clock 16 = .ok (.iload_n 1, 1) := by decide +kernel
theorem dX12_clock_17 : decode cX12_clock 17 = .ok (.iaload, 1) := by decide +kernel
theorem dX12_clock_18 : decode cX12_clock 18 = .ok (.goto 25, 3) := by decide +kernel
theorem dX12_clock_21 : decode cX12_clock 21 = .ok (.iload_n 1, 1) := by decide +kernel
theorem dX12_clock_22 : decode cX12_clock 22 = .ok (.bipush 6, 2) := by decide +kernel
theorem dX12_clock_24 : decode cX12_clock 24 = .ok (.if_icmp .ne 18, 3) := by decide +kernel
theorem dX12_clock_27 : decode cX12_clock 27 = .ok (.aload_n 0, 1) := by decide +kernel
theorem dX12_clock_28 : decode cX12_clock 28 = .ok (.getfield 168, 3) := by decide +kernel
theorem dX12_clock_31 : decode cX12_clock 31 = .ok (.ifCond .eq 7, 3) := by decide +kernel
theorem dX12_clock_34 : decode cX12_clock 34 = .ok (.iconst 1, 1) := by decide +kernel
theorem dX12_clock_35 : decode cX12_clock 35 = .ok (.goto 8, 3) := by decide +kernel
theorem dX12_clock_38 : decode cX12_clock 38 = .ok (.iconst 0, 1) := by decide +kernel
theorem dX12_clock_39 : decode cX12_clock 39 = .ok (.goto 4, 3) := by decide +kernel
theorem dX12_clock_42 : decode cX12_clock 42 = .ok (.iconst (-1), 1) := by decide +kernel
theorem dX12_clock_43 : decode cX12_clock 43 = .ok (.ireturn, 1) := by decide +kernel
theorem dX12_count_0 : decode cX12_count 0 = .ok (.iload_n 1, 1) := by decide +kernel
theorem dX12_count_1 : decode cX12_count 1 = .ok (.tableswitch 154 0 13 #[71, 76, 81, 86, 91, 96, 101, 111, 116, 121, 134, 139, 144, 149], 71) := by decide +kernel
theorem dX12_count_72 : decode cX12_count 72 = .ok (.aload_n 0, 1) := by decide +kernel
theorem dX12_count_73 : decode cX12_count 73 = .ok (.getfield 125, 3) := by decide +kernel
theorem dX12_count_76 : decode cX12_count 76 = .ok (.ireturn, 1) := by decide +kernel
theorem dX12_count_77 : decode cX12_count 77 = .ok (.aload_n 0, 1) := by decide +kernel
theorem dX12_count_78 : decode cX12_count 78 = .ok (.getfield 252, 3) := by decide +kernel
theorem dX12_count_81 : decode cX12_count 81 = .ok (.ireturn, 1) := by decide +kernel
theorem dX12_count_82 : decode cX12_count 82 = .ok (.aload_n 0, 1) := by decide +kernel
theorem dX12_count_83 : decode cX12_count 83 = .ok (.getfield 172, 3) := by decide +kernel
theorem dX12_count_86 : decode cX12_count 86 = .ok (.ireturn, 1) := by decide +kernel
theorem dX12_count_87 : decode cX12_count 87 = .ok (.aload_n 0, 1) := by decide +kernel
theorem dX12_count_88 : decode cX12_count 88 = .ok (.getfield 200, 3) := by decide +kernel
theorem dX12_count_91 : decode cX12_count 91 = .ok (.ireturn, 1) := by decide +kernel
theorem dX12_count_92 : decode cX12_count 92 = .ok (.aload_n 0, 1) := by decide +kernel
theorem dX12_count_93 : decode cX12_count 93 = .ok (.getfield 206, 3) := by decide +kernel
theorem dX12_count_96 : decode cX12_count 96 = .ok (.ireturn, 1) := by decide +kernel
theorem dX12_count_97 : decode cX12_count 97 = .ok (.aload_n 0, 1) := by decide +kernel
theorem dX12_count_98 : decode cX12_count 98 = .ok (.getfield 182, 3) := by decide +kernel
theorem dX12_count_101 : decode cX12_count 101 = .ok (.ireturn, 1) := by decide +kernel
theorem dX12_count_102 : decode cX12_count 102 = .ok (.aload_n 0, 1) := by decide +kernel
theorem dX12_count_103 : decode cX12_count 103 = .ok (.getfield 182, 3) := by decide +kernel
theorem dX12_count_106 : decode cX12_count 106 = .ok (.aload_n 0, 1) := by decide +kernel
theorem dX12_count_107 : decode cX12_count 107 = .ok (.getfield 197, 3) := by decide +kernel
theorem dX12_count_110 : decode cX12_count 110 = .ok (.isub, 1) := by decide +kernel
theorem dX12_count_111 : decode cX12_count 111 = .ok (.ireturn, 1) := by decide +kernel
theorem dX12_count_112 : decode cX12_count 112 = .ok (.aload_n 0, 1) := by decide +kernel
theorem dX12_count_113 : decode cX12_count 113 = .ok (.getfield 222, 3) := by decide +kernel
theorem dX12_count_116 : decode cX12_count 116 = .ok (.ireturn, 1) := by decide +kernel
theorem dX12_count_117 : decode cX12_count 117 = .ok (.aload_n 0, 1) := by decide +kernel
theorem dX12_count_118 : decode cX12_count 118 = .ok (.getfield 158, 3) := by decide +kernel
theorem dX12_count_121 : decode cX12_count 121 = .ok (.ireturn, 1) := by decide +kernel
theorem dX12_count_122 : decode cX12_count 122 = .ok (.aload_n 0, 1) := by decide +kernel
theorem dX12_count_123 : decode cX12_count 123 = .ok (.getfield 258, 3) := by decide +kernel
theorem dX12_count_126 : decode cX12_count 126 = .ok (.ifCond .eq 7, 3) := by decide +kernel
theorem dX12_count_129 : decode cX12_count 129 = .ok (.iconst 1, 1) := by decide +kernel
theorem dX12_count_130 : decode cX12_count 130 = .ok (.goto 4, 3) := by decide +kernel
theorem dX12_count_133 : decode cX12_count 133 = .ok (.iconst 0, 1) := by decide +kernel
theorem dX12_count_134 : decode cX12_count 134 = .ok (.ireturn, 1) := by decide +kernel
theorem dX12_count_135 : decode cX12_count 135 = .ok (.aload_n 0, 1) := by decide +kernel
theorem dX12_count_136 : decode cX12_count 136 = .ok (.getfield 302, 3) := by decide +kernel
theorem dX12_count_139 : decode cX12_count 139 = .ok (.ireturn, 1) := by decide +kernel
theorem dX12_count_140 : decode cX12_count 140 = .ok (.aload_n 0, 1) := by decide +kernel
theorem dX12_count_141 : decode cX12_count 141 = .ok (.getfield 219, 3) := by decide +kernel
theorem dX12_count_144 : decode cX12_count 144 = .ok (.ireturn, 1) := by decide +kernel
theorem dX12_count_145 : decode cX12_count 145 = .ok (.aload_n 0, 1) := by decide +kernel
theorem dX12_count_146 : decode cX12_count 146 = .ok (.getfield 108, 3) := by decide +kernel
theorem dX12_count_149 : decode cX12_count 149 = .ok (.ireturn, 1) := by decide +kernel
theorem dX12_count_150 : decode cX12_count 150 = .ok (.aload_n 0, 1) := by decide +kernel
theorem dX12_count_151 : decode cX12_count 151 = .ok (.getfield 130, 3) := by decide +kernel
theorem dX12_count_154 : decode cX12_count 154 = .ok (.ireturn, 1) := by decide +kernel
theorem dX12_count_155 : decode cX12_count 155 = .ok (.iconst (-1), 1) := by decide +kernel
theorem dX12_count_156 : decode cX12_count 156 = .ok (.ireturn, 1) := by decide +kernel
theorem dJ9_max_7cf53_0 : decode cJ9_max_7cf53 0 = .ok (.iload_n 0, 1) := by decide +kernel
theorem dJ9_max_7cf53_1 : decode cJ9_max_7cf53 1 = .ok (.iload_n 1, 1) := by decide +kernel
theorem dJ9_max_7cf53_2 : decode cJ9_max_7cf53 2 = .ok (.if_icmp .lt 7, 3) := by decide +kernel
theorem dJ9_max_7cf53_5 : decode cJ9_max_7cf53 5 = .ok (.iload_n 0, 1) := by decide +kernel
theorem dJ9_max_7cf53_6 : decode cJ9_max_7cf53 6 = .ok (.goto 4, 3) := by decide +kernel
theorem dJ9_max_7cf53_9 : decode cJ9_max_7cf53 9 = .ok (.iload_n 1, 1) := by decide +kernel
theorem dJ9_max_7cf53_10 : decode cJ9_max_7cf53 10 = .ok (.ireturn, 1) := by decide +kernel
theorem dJ9_min_7cf53_0 : decode cJ9_min_7cf53 0 = .ok (.iload_n 0, 1) := by decide +kernel
theorem dJ9_min_7cf53_1 : decode cJ9_min_7cf53 1 = .ok (.iload_n 1, 1) := by decide +kernel
theorem dJ9_min_7cf53_2 : decode cJ9_min_7cf53 2 = .ok (.if_icmp .gt 7, 3) := by decide +kernel
theorem dJ9_min_7cf53_5 : decode cJ9_min_7cf53 5 = .ok (.iload_n 0, 1) := by decide +kernel
theorem dJ9_min_7cf53_6 : decode cJ9_min_7cf53 6 = .ok (.goto 4, 3) := by decide +kernel
theorem dJ9_min_7cf53_9 : decode cJ9_min_7cf53 9 = .ok (.iload_n 1, 1) := by decide +kernel
theorem dJ9_min_7cf53_10 : decode cJ9_min_7cf53 10 = .ok (.ireturn, 1) := by decide +kernel
theorem dL_law_0 : decode cL_law 0 = .ok (.new 7, 3) := by decide +kernel
theorem dL_law_3 : decode cL_law 3 = .ok (.dup, 1) := by decide +kernel
theorem dL_law_4 : decode cL_law 4 = .ok (.invokespecial 9, 3) := by decide +kernel
theorem dL_law_7 : decode cL_law 7 = .ok (.astore_n 1, 1) := by decide +kernel
theorem dL_law_8 : decode cL_law 8 = .ok (.new 10, 3) := by decide +kernel
theorem dL_law_11 : decode cL_law 11 = .ok (.dup, 1) := by decide +kernel
theorem dL_law_12 : decode cL_law 12 = .ok (.invokespecial 12, 3) := by decide +kernel
theorem dL_law_15 : decode cL_law 15 = .ok (.astore_n 2, 1) := by decide +kernel
theorem dL_law_16 : decode cL_law 16 = .ok (.iconst 0, 1) := by decide +kernel
theorem dL_law_17 : decode cL_law 17 = .ok (.istore_n 3, 1) := by decide +kernel
theorem dL_law_18 : decode cL_law 18 = .ok (.iload_n 3, 1) := by decide +kernel
theorem dL_law_19 : decode cL_law 19 = .ok (.aload_n 0, 1) := by decide +kernel
theorem dL_law_20 : decode cL_law 20 = .ok (.arraylength, 1) := by decide +kernel
theorem dL_law_21 : decode cL_law 21 = .ok (.iconst 5, 1) := by decide +kernel
theorem dL_law_22 : decode cL_law 22 = .ok (.isub, 1) := by decide +kernel
theorem dL_law_23 : decode cL_law 23 = .ok (.if_icmp .gt 571, 3) := by decide +kernel
theorem dL_law_26 : decode cL_law 26 = .ok (.aload_n 0, 1) := by decide +kernel
theorem dL_law_27 : decode cL_law 27 = .ok (.iload_n 3, 1) := by decide +kernel
theorem dL_law_28 : decode cL_law 28 = .ok (.iaload, 1) := by decide +kernel
theorem dL_law_29 : decode cL_law 29 = .ok (.bipush 15, 2) := by decide +kernel
theorem dL_law_31 : decode cL_law 31 = .ok (.iand, 1) := by decide +kernel
theorem dL_law_32 : decode cL_law 32 = .ok (.tableswitch 556 0 13 #[72, 105, 174, 243, 286, 299, 312, 375, 398, 421, 444, 477, 510, 533], 72) := by decide +kernel
theorem dL_law_104 : decode cL_law 104 = .ok (.aload_n 1, 1) := by decide +kernel
theorem dL_law_105 : decode cL_law 105 = .ok (.aload_n 0, 1) := by decide +kernel
theorem dL_law_106 : decode cL_law 106 = .ok (.iload_n 3, 1) := by decide +kernel
theorem dL_law_107 : decode cL_law 107 = .ok (.iconst 1, 1) := by decide +kernel
theorem dL_law_108 : decode cL_law 108 = .ok (.iadd, 1) := by decide +kernel
theorem dL_law_109 : decode cL_law 109 = .ok (.iaload, 1) := by decide +kernel
theorem dL_law_110 : decode cL_law 110 = .ok (.aload_n 0, 1) := by decide +kernel
theorem dL_law_111 : decode cL_law 111 = .ok (.iload_n 3, 1) := by decide +kernel
theorem dL_law_112 : decode cL_law 112 = .ok (.iconst 2, 1) := by decide +kernel
theorem dL_law_113 : decode cL_law 113 = .ok (.iadd, 1) := by decide +kernel
theorem dL_law_114 : decode cL_law 114 = .ok (.iaload, 1) := by decide +kernel
theorem dL_law_115 : decode cL_law 115 = .ok (.invokevirtual 13, 3) := by decide +kernel
theorem dL_law_118 : decode cL_law 118 = .ok (.aload_n 2, 1) := by decide +kernel
theorem dL_law_119 : decode cL_law 119 = .ok (.aload_n 0, 1) := by decide +kernel
theorem dL_law_120 : decode cL_law 120 = .ok (.iload_n 3, 1) := by decide +kernel
theorem dL_law_121 : decode cL_law 121 = .ok (.iconst 1, 1) := by decide +kernel
theorem dL_law_122 : decode cL_law 122 = .ok (.iadd, 1) := by decide +kernel
theorem dL_law_123 : decode cL_law 123 = .ok (.iaload, 1) := by decide +kernel
theorem dL_law_124 : decode cL_law 124 = .ok (.aload_n 0, 1) := by decide +kernel
theorem dL_law_125 : decode cL_law 125 = .ok (.iload_n 3, 1) := by decide +kernel
theorem dL_law_126 : decode cL_law 126 = .ok (.iconst 2, 1) := by decide +kernel
theorem dL_law_127 : decode cL_law 127 = .ok (.iadd, 1) := by decide +kernel
theorem dL_law_128 : decode cL_law 128 = .ok (.iaload, 1) := by decide +kernel
theorem dL_law_129 : decode cL_law 129 = .ok (.invokevirtual 17, 3) := by decide +kernel
theorem dL_law_132 : decode cL_law 132 = .ok (.if_icmp .eq 456, 3) := by decide +kernel
theorem dL_law_135 : decode cL_law 135 = .ok (.iconst 0, 1) := by decide +kernel
theorem dL_law_136 : decode cL_law 136 = .ok (.ireturn, 1) := by decide +kernel
theorem dL_law_137 : decode cL_law 137 = .ok (.aload_n 1, 1) := by decide +kernel
theorem dL_law_138 : decode cL_law 138 = .ok (.aload_n 0, 1) := by decide +kernel
theorem dL_law_139 : decode cL_law 139 = .ok (.iload_n 3, 1) := by decide +kernel
theorem dL_law_140 : decode cL_law 140 = .ok (.iconst 1, 1) := by decide +kernel
theorem dL_law_141 : decode cL_law 141 = .ok (.iadd, 1) := by decide +kernel
theorem dL_law_142 : decode cL_law 142 = .ok (.iaload, 1) := by decide +kernel
theorem dL_law_143 : decode cL_law 143 = .ok (.aload_n 0, 1) := by decide +kernel
theorem dL_law_144 : decode cL_law 144 = .ok (.iload_n 3, 1) := by decide +kernel
theorem dL_law_145 : decode cL_law 145 = .ok (.iconst 2, 1) := by decide +kernel
theorem dL_law_146 : decode cL_law 146 = .ok (.iadd, 1) := by decide +kernel
theorem dL_law_147 : decode cL_law 147 = .ok (.iaload, 1) := by decide +kernel
theorem dL_law_148 : decode cL_law 148 = .ok (.aload_n 0, 1) := by decide +kernel
theorem dL_law_149 : decode cL_law 149 = .ok (.iload_n 3, 1) := by decide +kernel
theorem dL_law_150 : decode cL_law 150 = .ok (.iconst 3, 1) := by decide +kernel
theorem dL_law_151 : decode cL_law 151 = .ok (.iadd, 1) := by decide +kernel
theorem dL_law_152 : decode cL_law 152 = .ok (.iaload, 1) := by decide +kernel
theorem dL_law_153 : decode cL_law 153 = .ok (.aload_n 0, 1) := by decide +kernel
theorem dL_law_154 : decode cL_law 154 = .ok (.iload_n 3, 1) := by decide +kernel
theorem dL_law_155 : decode cL_law 155 = .ok (.iconst 4, 1) := by decide +kernel
theorem dL_law_156 : decode cL_law 156 = .ok (.iadd, 1) := by decide +kernel
theorem dL_law_157 : decode cL_law 157 = .ok (.iaload, 1) := by decide +kernel
theorem dL_law_158 : decode cL_law 158 = .ok (.ifCond .eq 7, 3) := by decide +kernel
theorem dL_law_161 : decode cL_law 161 = .ok (.iconst 1, 1) := by decide +kernel
theorem dL_law_162 : decode cL_law 162 = .ok (.goto 4, 3) := by decide +kernel
theorem dL_law_165 : decode cL_law 165 = .ok (.iconst 0, 1) := by decide +kernel
theorem dL_law_166 : decode cL_law 166 = .ok (.invokevirtual 18, 3) := by decide +kernel
theorem dL_law_169 : decode cL_law 169 = .ok (.aload_n 2, 1) := by decide +kernel
theorem dL_law_170 : decode cL_law 170 = .ok (.aload_n 0, 1) := by decide +kernel
theorem dL_law_171 : decode cL_law 171 = .ok (.iload_n 3, 1) := by decide +kernel
theorem dL_law_172 : decode cL_law 172 = .ok (.iconst 1, 1) := by decide +kernel
theorem dL_law_173 : decode cL_law 173 = .ok (.iadd, 1) := by decide +kernel
theorem dL_law_174 : decode cL_law 174 = .ok (.iaload, 1) := by decide +kernel
theorem dL_law_175 : decode cL_law 175 = .ok (.aload_n 0, 1) := by decide +kernel
theorem dL_law_176 : decode cL_law 176 = .ok (.iload_n 3, 1) := by decide +kernel
theorem dL_law_177 : decode cL_law 177 = .ok (.iconst 2, 1) := by decide +kernel
theorem dL_law_178 : decode cL_law 178 = .ok (.iadd, 1) := by decide +kernel
theorem dL_law_179 : decode cL_law 179 = .ok (.iaload, 1) := by decide +kernel
theorem dL_law_180 : decode cL_law 180 = .ok (.aload_n 0, 1) := by decide +kernel
theorem dL_law_181 : decode cL_law 181 = .ok (.iload_n 3, 1) := by decide +kernel
theorem dL_law_182 : decode cL_law 182 = .ok (.iconst 3, 1) := by decide +kernel
theorem dL_law_183 : decode cL_law 183 = .ok (.iadd, 1) := by decide +kernel
theorem dL_law_184 : decode cL_law 184 = .ok (.iaload, 1) := by decide +kernel
theorem dL_law_185 : decode cL_law 185 = .ok (.aload_n 0, 1) := by decide +kernel
theorem dL_law_186 : decode cL_law 186 = .ok (.iload_n 3, 1) := by decide +kernel
theorem dL_law_187 : decode cL_law 187 = .ok (.iconst 4, 1) := by decide +kernel
theorem dL_law_188 : decode cL_law 188 = .ok (.iadd, 1) := by decide +kernel
theorem dL_law_189 : decode cL_law 189 = .ok (.iaload, 1) := by decide +kernel
theorem dL_law_190 : decode cL_law 190 = .ok (.ifCond .eq 7, 3) := by decide +kernel
theorem dL_law_193 : decode cL_law 193 = .ok (.iconst 1, 1) := by decide +kernel
theorem dL_law_194 : decode cL_law 194 = .ok (.goto 4, 3) := by decide +kernel
theorem dL_law_197 : decode cL_law 197 = .ok (.iconst 0, 1) := by decide +kernel
theorem dL_law_198 : decode cL_law 198 = .ok (.invokevirtual 22, 3) := by decide +kernel
theorem dL_law_201 : decode cL_law 201 = .ok (.if_icmp .eq 387, 3) := by decide +kernel
theorem dL_law_204 : decode cL_law 204 = .ok (.iconst 0, 1) := by decide +kernel
theorem dL_law_205 : decode cL_law 205 = .ok (.ireturn, 1) := by decide +kernel
theorem dL_law_206 : decode cL_law 206 = .ok (.aload_n 1, 1) := by decide +kernel
theorem dL_law_207 : decode cL_law 207 = .ok (.aload_n 0, 1) := by decide +kernel
theorem dL_law_208 : decode cL_law 208 = .ok (.iload_n 3, 1) := by decide +kernel
theorem dL_law_209 : decode cL_law 209 = .ok (.iconst 1, 1) := by decide +kernel
theorem dL_law_210 : decode cL_law 210 = .ok (.iadd, 1) := by decide +kernel
theorem dL_law_211 : decode cL_law 211 = .ok (.iaload, 1) := by decide +kernel
theorem dL_law_212 : decode cL_law 212 = .ok (.aload_n 0, 1) := by decide +kernel
theorem dL_law_213 : decode cL_law 213 = .ok (.iload_n 3, 1) := by decide +kernel
theorem dL_law_214 : decode cL_law 214 = .ok (.iconst 2, 1) := by decide +kernel
theorem dL_law_215 : decode cL_law 215 = .ok (.iadd, 1) := by decide +kernel
theorem dL_law_216 : decode cL_law 216 = .ok (.iaload, 1) := by decide +kernel
theorem dL_law_217 : decode cL_law 217 = .ok (.aload_n 0, 1) := by decide +kernel
theorem dL_law_218 : decode cL_law 218 = .ok (.iload_n 3, 1) := by decide +kernel
theorem dL_law_219 : decode cL_law 219 = .ok (.iconst 3, 1) := by decide +kernel
theorem dL_law_220 : decode cL_law 220 = .ok (.iadd, 1) := by decide +kernel
theorem dL_law_221 : decode cL_law 221 = .ok (.iaload, 1) := by decide +kernel
theorem dL_law_222 : decode cL_law 222 = .ok (.aload_n 0, 1) := by decide +kernel
theorem dL_law_223 : decode cL_law 223 = .ok (.iload_n 3, 1) := by decide +kernel
theorem dL_law_224 : decode cL_law 224 = .ok (.iconst 4, 1) := by decide +kernel
theorem dL_law_225 : decode cL_law 225 = .ok (.iadd, 1) := by decide +kernel
theorem dL_law_226 : decode cL_law 226 = .ok (.iaload, 1) := by decide +kernel
theorem dL_law_227 : decode cL_law 227 = .ok (.ifCond .eq 7, 3) := by decide +kernel
theorem dL_law_230 : decode cL_law 230 = .ok (.iconst 1, 1) := by decide +kernel
theorem dL_law_231 : decode cL_law 231 = .ok (.goto 4, 3) := by decide +kernel
theorem dL_law_234 : decode cL_law 234 = .ok (.iconst 0, 1) := by decide +kernel
theorem dL_law_235 : decode cL_law 235 = .ok (.invokevirtual 23, 3) := by decide +kernel
theorem dL_law_238 : decode cL_law 238 = .ok (.aload_n 2, 1) := by decide +kernel
theorem dL_law_239 : decode cL_law 239 = .ok (.aload_n 0, 1) := by decide +kernel
theorem dL_law_240 : decode cL_law 240 = .ok (.iload_n 3, 1) := by decide +kernel
theorem dL_law_241 : decode cL_law 241 = .ok (.iconst 1, 1) := by decide +kernel
theorem dL_law_242 : decode cL_law 242 = .ok (.iadd, 1) := by decide +kernel
theorem dL_law_243 : decode cL_law 243 = .ok (.iaload, 1) := by decide +kernel
theorem dL_law_244 : decode cL_law 244 = .ok (.aload_n 0, 1) := by decide +kernel
theorem dL_law_245 : decode cL_law 245 = .ok (.iload_n 3, 1) := by decide +kernel
theorem dL_law_246 : decode cL_law 246 = .ok (.iconst 2, 1) := by decide +kernel
theorem dL_law_247 : decode cL_law 247 = .ok (.iadd, 1) := by decide +kernel
theorem dL_law_248 : decode cL_law 248 = .ok (.iaload, 1) := by decide +kernel
theorem dL_law_249 : decode cL_law 249 = .ok (.aload_n 0, 1) := by decide +kernel
theorem dL_law_250 : decode cL_law 250 = .ok (.iload_n 3, 1) := by decide +kernel
theorem dL_law_251 : decode cL_law 251 = .ok (.iconst 3, 1) := by decide +kernel
theorem dL_law_252 : decode cL_law 252 = .ok (.iadd, 1) := by decide +kernel
theorem dL_law_253 : decode cL_law 253 = .ok (.iaload, 1) := by decide +kernel
theorem dL_law_254 : decode cL_law 254 = .ok (.aload_n 0, 1) := by decide +kernel
theorem dL_law_255 : decode cL_law 255 = .ok (.iload_n 3, 1) := by decide +kernel
theorem dL_law_256 : decode cL_law 256 = .ok (.iconst 4, 1) := by decide +kernel
theorem dL_law_257 : decode cL_law 257 = .ok (.iadd, 1) := by decide +kernel
theorem dL_law_258 : decode cL_law 258 = .ok (.iaload, 1) := by decide +kernel
theorem dL_law_259 : decode cL_law 259 = .ok (.ifCond .eq 7, 3) := by decide +kernel
theorem dL_law_262 : decode cL_law 262 = .ok (.iconst 1, 1) := by decide +kernel
theorem dL_law_263 : decode cL_law 263 = .ok (.goto 4, 3) := by decide +kernel
theorem dL_law_266 : decode cL_law 266 = .ok (.iconst 0, 1) := by decide +kernel
theorem dL_law_267 : decode cL_law 267 = .ok (.invokevirtual 26, 3) := by decide +kernel
theorem dL_law_270 : decode cL_law 270 = .ok (.if_icmp .eq 318, 3) := by decide +kernel
theorem dL_law_273 : decode cL_law 273 = .ok (.iconst 0, 1) := by decide +kernel
theorem dL_law_274 : decode cL_law 274 = .ok (.ireturn, 1) := by decide +kernel
theorem dL_law_275 : decode cL_law 275 = .ok (.aload_n 1, 1) := by decide +kernel
theorem dL_law_276 : decode cL_law 276 = .ok (.aload_n 0, 1) := by decide +kernel
theorem dL_law_277 : decode cL_law 277 = .ok (.iload_n 3, 1) := by decide +kernel
theorem dL_law_278 : decode cL_law 278 = .ok (.iconst 1, 1) := by decide +kernel
theorem dL_law_279 : decode cL_law 279 = .ok (.iadd, 1) := by decide +kernel
theorem dL_law_280 : decode cL_law 280 = .ok (.iaload, 1) := by decide +kernel
theorem dL_law_281 : decode cL_law 281 = .ok (.aload_n 0, 1) := by decide +kernel
theorem dL_law_282 : decode cL_law 282 = .ok (.iload_n 3, 1) := by decide +kernel
theorem dL_law_283 : decode cL_law 283 = .ok (.iconst 2, 1) := by decide +kernel
theorem dL_law_284 : decode cL_law 284 = .ok (.iadd, 1) := by decide +kernel
theorem dL_law_285 : decode cL_law 285 = .ok (.iaload, 1) := by decide +kernel
theorem dL_law_286 : decode cL_law 286 = .ok (.aload_n 0, 1) := by decide +kernel
theorem dL_law_287 : decode cL_law 287 = .ok (.iload_n 3, 1) := by decide +kernel
theorem dL_law_288 : decode cL_law 288 = .ok (.iconst 3, 1) := by decide +kernel
theorem dL_law_289 : decode cL_law 289 = .ok (.iadd, 1) := by decide +kernel
theorem dL_law_290 : decode cL_law 290 = .ok (.iaload, 1) := by decide +kernel
theorem dL_law_291 : decode cL_law 291 = .ok (.invokevirtual 27, 3) := by decide +kernel
theorem dL_law_294 : decode cL_law 294 = .ok (.aload_n 2, 1) := by decide +kernel
theorem dL_law_295 : decode cL_law 295 = .ok (.aload_n 0, 1) := by decide +kernel
theorem dL_law_296 : decode cL_law 296 = .ok (.iload_n 3, 1) := by decide +kernel
theorem dL_law_297 : decode cL_law 297 = .ok (.iconst 1, 1) := by decide +kernel
theorem dL_law_298 : decode cL_law 298 = .ok (.iadd, 1) := by decide +kernel
theorem dL_law_299 : decode cL_law 299 = .ok (.iaload, 1) := by decide +kernel
theorem dL_law_300 : decode cL_law 300 = .ok (.aload_n 0, 1) := by decide +kernel
theorem dL_law_301 : decode cL_law 301 = .ok (.iload_n 3, 1) := by decide +kernel
theorem dL_law_302 : decode cL_law 302 = .ok (.iconst 2, 1) := by decide +kernel
theorem dL_law_303 : decode cL_law 303 = .ok (.iadd, 1) := by decide +kernel
theorem dL_law_304 : decode cL_law 304 = .ok (.iaload, 1) := by decide +kernel
theorem dL_law_305 : decode cL_law 305 = .ok (.aload_n 0, 1) := by decide +kernel
theorem dL_law_306 : decode cL_law 306 = .ok (.iload_n 3, 1) := by decide +kernel
theorem dL_law_307 : decode cL_law 307 = .ok (.iconst 3, 1) := by decide +kernel
theorem dL_law_308 : decode cL_law 308 = .ok (.iadd, 1) := by decide +kernel
theorem dL_law_309 : decode cL_law 309 = .ok (.iaload, 1) := by decide +kernel
theorem dL_law_310 : decode cL_law 310 = .ok (.invokevirtual 31, 3) := by decide +kernel
theorem dL_law_313 : decode cL_law 313 = .ok (.if_icmp .eq 275, 3) := by decide +kernel
theorem dL_law_316 : decode cL_law 316 = .ok (.iconst 0, 1) := by decide +kernel
theorem dL_law_317 : decode cL_law 317 = .ok (.ireturn, 1) := by decide +kernel
theorem dL_law_318 : decode cL_law 318 = .ok (.aload_n 1, 1) := by decide +kernel
theorem dL_law_319 : decode cL_law 319 = .ok (.invokevirtual 32, 3) := by decide +kernel
theorem dL_law_322 : decode cL_law 322 = .ok (.aload_n 2, 1) := by decide +kernel
theorem dL_law_323 : decode cL_law 323 = .ok (.invokevirtual 36, 3) := by decide +kernel
theorem dL_law_326 : decode cL_law 326 = .ok (.if_icmp .eq 262, 3) := by decide +kernel
theorem dL_law_329 : decode cL_law 329 = .ok (.iconst 0, 1) := by decide +kernel
theorem dL_law_330 : decode cL_law 330 = .ok (.ireturn, 1) := by decide +kernel
theorem dL_law_331 : decode cL_law 331 = .ok (.aload_n 1, 1) := by decide +kernel
theorem dL_law_332 : decode cL_law 332 = .ok (.invokevirtual 37, 3) := by decide +kernel
theorem dL_law_335 : decode cL_law 335 = .ok (.aload_n 2, 1) := by decide +kernel
theorem dL_law_336 : decode cL_law 336 = .ok (.invokevirtual 40, 3) := by decide +kernel
theorem dL_law_339 : decode cL_law 339 = .ok (.if_icmp .eq 249, 3) := by decide +kernel
theorem dL_law_342 : decode cL_law 342 = .ok (.iconst 0, 1) := by decide +kernel
theorem dL_law_343 : decode cL_law 343 = .ok (.ireturn, 1) := by decide +kernel
theorem dL_law_344 : decode cL_law 344 = .ok (.aload_n 1, 1) := by decide +kernel
theorem dL_law_345 : decode cL_law 345 = .ok (.aload_n 0, 1) := by decide +kernel
theorem dL_law_346 : decode cL_law 346 = .ok (.iload_n 3, 1) := by decide +kernel
theorem dL_law_347 : decode cL_law 347 = .ok (.iconst 1, 1) := by decide +kernel
theorem dL_law_348 : decode cL_law 348 = .ok (.iadd, 1) := by decide +kernel
theorem dL_law_349 : decode cL_law 349 = .ok (.iaload, 1) := by decide +kernel
theorem dL_law_350 : decode cL_law 350 = .ok (.aload_n 0, 1) := by decide +kernel
theorem dL_law_351 : decode cL_law 351 = .ok (.iload_n 3, 1) := by decide +kernel
theorem dL_law_352 : decode cL_law 352 = .ok (.iconst 2, 1) := by decide +kernel
theorem dL_law_353 : decode cL_law 353 = .ok (.iadd, 1) := by decide +kernel
theorem dL_law_354 : decode cL_law 354 = .ok (.iaload, 1) := by decide +kernel
theorem dL_law_355 : decode cL_law 355 = .ok (.i2l, 1) := by decide +kernel
theorem dL_law_356 : decode cL_law 356 = .ok (.bipush 32, 2) := by decide +kernel
theorem dL_law_358 : decode cL_law 358 = .ok (.lshl, 1) := by decide +kernel
theorem dL_law_359 : decode cL_law 359 = .ok (.aload_n 0, 1) := by decide +kernel
theorem dL_law_360 : decode cL_law 360 = .ok (.iload_n 3, 1) := by decide +kernel
theorem dL_law_361 : decode cL_law 361 = .ok (.iconst 3, 1) := by decide +kernel
theorem dL_law_362 : decode cL_law 362 = .ok (.iadd, 1) := by decide +kernel
theorem dL_law_363 : decode cL_law 363 = .ok (.iaload, 1) := by decide +kernel
theorem dL_law_364 : decode cL_law 364 = .ok (.i2l, 1) := by decide +kernel
theorem dL_law_365 : decode cL_law 365 = .ok (.ldc2_w 41, 3) := by decide +kernel
theorem dL_law_368 : decode cL_law 368 = .ok (.land, 1) := by decide +kernel
theorem dL_law_369 : decode cL_law 369 = .ok (.lor, 1) := by decide +kernel
theorem dL_law_370 : decode cL_law 370 = .ok (.invokevirtual 43, 3) := by decide +kernel
theorem dL_law_373 : decode cL_law 373 = .ok (.aload_n 2, 1) := by decide +kernel
theorem dL_law_374 : decode cL_law 374 = .ok (.aload_n 0, 1) := by decide +kernel
theorem dL_law_375 : decode cL_law 375 = .ok (.iload_n 3, 1) := by decide +kernel
theorem dL_law_376 : decode cL_law 376 = .ok (.iconst 1, 1) := by decide +kernel
theorem dL_law_377 : decode cL_law 377 = .ok (.iadd, 1) := by decide +kernel
theorem dL_law_378 : decode cL_law 378 = .ok (.iaload, 1) := by decide +kernel
theorem dL_law_379 : decode cL_law 379 = .ok (.aload_n 0, 1) := by decide +kernel
theorem dL_law_380 : decode cL_law 380 = .ok (.iload_n 3, 1) := by decide +kernel
theorem dL_law_381 : decode cL_law 381 = .ok (.iconst 2, 1) := by decide +kernel
theorem dL_law_382 : decode cL_law 382 = .ok (.iadd, 1) := by decide +kernel
theorem dL_law_383 : decode cL_law 383 = .ok (.iaload, 1) := by decide +kernel
theorem dL_law_384 : decode cL_law 384 = .ok (.i2l, 1) := by decide +kernel
theorem dL_law_385 : decode cL_law 385 = .ok (.bipush 32, 2) := by decide +kernel
theorem dL_law_387 : decode cL_law 387 = .ok (.lshl, 1) := by decide +kernel
theorem dL_law_388 : decode cL_law 388 = .ok (.aload_n 0, 1) := by decide +kernel
theorem dL_law_389 : decode cL_law 389 = .ok (.iload_n 3, 1) := by decide +kernel
theorem dL_law_390 : decode cL_law 390 = .ok (.iconst 3, 1) := by decide +kernel
theorem dL_law_391 : decode cL_law 391 = .ok (.iadd, 1) := by decide +kernel
theorem dL_law_392 : decode cL_law 392 = .ok (.iaload, 1) := by decide +kernel
theorem dL_law_393 : decode cL_law 393 = .ok (.i2l, 1) := by decide +kernel
theorem dL_law_394 : decode cL_law 394 = .ok (.ldc2_w 41, 3) := by decide +kernel
theorem dL_law_397 : decode cL_law 397 = .ok (.land, 1) := by decide +kernel
theorem dL_law_398 : decode cL_law 398 = .ok (.lor, 1) := by decide +kernel
theorem dL_law_399 : decode cL_law 399 = .ok (.invokevirtual 47, 3) := by decide +kernel
theorem dL_law_402 : decode cL_law 402 = .ok (.if_icmp .eq 186, 3) := by decide +kernel
theorem dL_law_405 : decode cL_law 405 = .ok (.iconst 0, 1) := by decide +kernel
theorem dL_law_406 : decode cL_law 406 = .ok (.ireturn, 1) := by decide +kernel
theorem dL_law_407 : decode cL_law 407 = .ok (.aload_n 1, 1) := by decide +kernel
theorem dL_law_408 : decode cL_law 408 = .ok (.aload_n 0, 1) := by decide +kernel
theorem dL_law_409 : decode cL_law 409 = .ok (.iload_n 3, 1) := by decide +kernel
theorem dL_law_410 : decode cL_law 410 = .ok (.iconst 1, 1) := by decide +kernel
theorem dL_law_411 : decode cL_law 411 = .ok (.iadd, 1) := by decide +kernel
theorem dL_law_412 : decode cL_law 412 = .ok (.iaload, 1) := by decide +kernel
theorem dL_law_413 : decode cL_law 413 = .ok (.invokevirtual 48, 3) := by decide +kernel
theorem dL_law_416 : decode cL_law 416 = .ok (.aload_n 2, 1) := by decide +kernel
theorem dL_law_417 : decode cL_law 417 = .ok (.aload_n 0, 1) := by decide +kernel
theorem dL_law_418 : decode cL_law 418 = .ok (.iload_n 3, 1) := by decide +kernel
theorem dL_law_419 : decode cL_law 419 = .ok (.iconst 1, 1) := by decide +kernel
theorem dL_law_420 : decode cL_law 420 = .ok (.iadd, 1) := by decide +kernel
theorem dL_law_421 : decode cL_law 421 = .ok (.iaload, 1) := by decide +kernel
theorem dL_law_422 : decode cL_law 422 = .ok (.invokevirtual 52, 3) := by decide +kernel
theorem dL_law_425 : decode cL_law 425 = .ok (.if_icmp .eq 163, 3) := by decide +kernel
theorem dL_law_428 : decode cL_law 428 = .ok (.iconst 0, 1) := by decide +kernel
theorem dL_law_429 : decode cL_law 429 = .ok (.ireturn, 1) := by decide +kernel
theorem dL_law_430 : decode cL_law 430 = .ok (.aload_n 1, 1) := by decide +kernel
theorem dL_law_431 : decode cL_law 431 = .ok (.aload_n 0, 1) := by decide +kernel
theorem dL_law_432 : decode cL_law 432 = .ok (.iload_n 3, 1) := by decide +kernel
theorem dL_law_433 : decode cL_law 433 = .ok (.iconst 1, 1) := by decide +kernel
theorem dL_law_434 : decode cL_law 434 = .ok (.iadd, 1) := by decide +kernel
theorem dL_law_435 : decode cL_law 435 = .ok (.iaload, 1) := by decide +kernel
theorem dL_law_436 : decode cL_law 436 = .ok (.invokevirtual 53, 3) := by decide +kernel
theorem dL_law_439 : decode cL_law 439 = .ok (.aload_n 2, 1) := by decide +kernel
theorem dL_law_440 : decode cL_law 440 = .ok (.aload_n 0, 1) := by decide +kernel
theorem dL_law_441 : decode cL_law 441 = .ok (.iload_n 3, 1) := by decide +kernel
theorem dL_law_442 : decode cL_law 442 = .ok (.iconst 1, 1) := by decide +kernel
theorem dL_law_443 : decode cL_law 443 = .ok (.iadd, 1) := by decide +kernel
theorem dL_law_444 : decode cL_law 444 = .ok (.iaload, 1) := by decide +kernel
theorem dL_law_445 : decode cL_law 445 = .ok (.invokevirtual 56, 3) := by decide +kernel
theorem dL_law_448 : decode cL_law 448 = .ok (.if_icmp .eq 140, 3) := by decide +kernel
theorem dL_law_451 : decode cL_law 451 = .ok (.iconst 0, 1) := by decide +kernel
theorem dL_law_452 : decode cL_law 452 = .ok (.ireturn, 1) := by decide +kernel
theorem dL_law_453 : decode cL_law 453 = .ok (.aload_n 1, 1) := by decide +kernel
theorem dL_law_454 : decode cL_law 454 = .ok (.aload_n 0, 1) := by decide +kernel
theorem dL_law_455 : decode cL_law 455 = .ok (.iload_n 3, 1) := by decide +kernel
theorem dL_law_456 : decode cL_law 456 = .ok (.iconst 1, 1) := by decide +kernel
theorem dL_law_457 : decode cL_law 457 = .ok (.iadd, 1) := by decide +kernel
theorem dL_law_458 : decode cL_law 458 = .ok (.iaload, 1) := by decide +kernel
theorem dL_law_459 : decode cL_law 459 = .ok (.invokevirtual 57, 3) := by decide +kernel
theorem dL_law_462 : decode cL_law 462 = .ok (.aload_n 2, 1) := by decide +kernel
theorem dL_law_463 : decode cL_law 463 = .ok (.aload_n 0, 1) := by decide +kernel
theorem dL_law_464 : decode cL_law 464 = .ok (.iload_n 3, 1) := by decide +kernel
theorem dL_law_465 : decode cL_law 465 = .ok (.iconst 1, 1) := by decide +kernel
theorem dL_law_466 : decode cL_law 466 = .ok (.iadd, 1) := by decide +kernel
theorem dL_law_467 : decode cL_law 467 = .ok (.iaload, 1) := by decide +kernel
theorem dL_law_468 : decode cL_law 468 = .ok (.invokevirtual 60, 3) := by decide +kernel
theorem dL_law_471 : decode cL_law 471 = .ok (.if_icmp .eq 117, 3) := by decide +kernel
theorem dL_law_474 : decode cL_law 474 = .ok (.iconst 0, 1) := by decide +kernel
theorem dL_law_475 : decode cL_law 475 = .ok (.ireturn, 1) := by decide +kernel
theorem dL_law_476 : decode cL_law 476 = .ok (.aload_n 1, 1) := by decide +kernel
theorem dL_law_477 : decode cL_law 477 = .ok (.aload_n 0, 1) := by decide +kernel
theorem dL_law_478 : decode cL_law 478 = .ok (.iload_n 3, 1) := by decide +kernel
theorem dL_law_479 : decode cL_law 479 = .ok (.iconst 1, 1) := by decide +kernel
theorem dL_law_480 : decode cL_law 480 = .ok (.iadd, 1) := by decide +kernel
theorem dL_law_481 : decode cL_law 481 = .ok (.iaload, 1) := by decide +kernel
theorem dL_law_482 : decode cL_law 482 = .ok (.aload_n 0, 1) := by decide +kernel
theorem dL_law_483 : decode cL_law 483 = .ok (.iload_n 3, 1) := by decide +kernel
theorem dL_law_484 : decode cL_law 484 = .ok (.iconst 2, 1) := by decide +kernel
theorem dL_law_485 : decode cL_law 485 = .ok (.iadd, 1) := by decide +kernel
theorem dL_law_486 : decode cL_law 486 = .ok (.iaload, 1) := by decide +kernel
theorem dL_law_487 : decode cL_law 487 = .ok (.invokevirtual 61, 3) := by decide +kernel
theorem dL_law_490 : decode cL_law 490 = .ok (.aload_n 2, 1) := by decide +kernel
theorem dL_law_491 : decode cL_law 491 = .ok (.aload_n 0, 1) := by decide +kernel
theorem dL_law_492 : decode cL_law 492 = .ok (.iload_n 3, 1) := by decide +kernel
theorem dL_law_493 : decode cL_law 493 = .ok (.iconst 1, 1) := by decide +kernel
theorem dL_law_494 : decode cL_law 494 = .ok (.iadd, 1) := by decide +kernel
theorem dL_law_495 : decode cL_law 495 = .ok (.iaload, 1) := by decide +kernel
theorem dL_law_496 : decode cL_law 496 = .ok (.aload_n 0, 1) := by decide +kernel
theorem dL_law_497 : decode cL_law 497 = .ok (.iload_n 3, 1) := by decide +kernel
theorem dL_law_498 : decode cL_law 498 = .ok (.iconst 2, 1) := by decide +kernel
theorem dL_law_499 : decode cL_law 499 = .ok (.iadd, 1) := by decide +kernel
theorem dL_law_500 : decode cL_law 500 = .ok (.iaload, 1) := by decide +kernel
theorem dL_law_501 : decode cL_law 501 = .ok (.invokevirtual 64, 3) := by decide +kernel
theorem dL_law_504 : decode cL_law 504 = .ok (.if_icmp .eq 84, 3) := by decide +kernel
theorem dL_law_507 : decode cL_law 507 = .ok (.iconst 0, 1) := by decide +kernel
theorem dL_law_508 : decode cL_law 508 = .ok (.ireturn, 1) := by decide +kernel
theorem dL_law_509 : decode cL_law 509 = .ok (.aload_n 1, 1) := by decide +kernel
theorem dL_law_510 : decode cL_law 510 = .ok (.aload_n 0, 1) := by decide +kernel
theorem dL_law_511 : decode cL_law 511 = .ok (.iload_n 3, 1) := by decide +kernel
theorem dL_law_512 : decode cL_law 512 = .ok (.iconst 1, 1) := by decide +kernel
theorem dL_law_513 : decode cL_law 513 = .ok (.iadd, 1) := by decide +kernel
theorem dL_law_514 : decode cL_law 514 = .ok (.iaload, 1) := by decide +kernel
theorem dL_law_515 : decode cL_law 515 = .ok (.aload_n 0, 1) := by decide +kernel
theorem dL_law_516 : decode cL_law 516 = .ok (.iload_n 3, 1) := by decide +kernel
theorem dL_law_517 : decode cL_law 517 = .ok (.iconst 2, 1) := by decide +kernel
theorem dL_law_518 : decode cL_law 518 = .ok (.iadd, 1) := by decide +kernel
theorem dL_law_519 : decode cL_law 519 = .ok (.iaload, 1) := by decide +kernel
theorem dL_law_520 : decode cL_law 520 = .ok (.invokevirtual 65, 3) := by decide +kernel
theorem dL_law_523 : decode cL_law 523 = .ok (.aload_n 2, 1) := by decide +kernel
theorem dL_law_524 : decode cL_law 524 = .ok (.aload_n 0, 1) := by decide +kernel
theorem dL_law_525 : decode cL_law 525 = .ok (.iload_n 3, 1) := by decide +kernel
theorem dL_law_526 : decode cL_law 526 = .ok (.iconst 1, 1) := by decide +kernel
theorem dL_law_527 : decode cL_law 527 = .ok (.iadd, 1) := by decide +kernel
theorem dL_law_528 : decode cL_law 528 = .ok (.iaload, 1) := by decide +kernel
theorem dL_law_529 : decode cL_law 529 = .ok (.aload_n 0, 1) := by decide +kernel
theorem dL_law_530 : decode cL_law 530 = .ok (.iload_n 3, 1) := by decide +kernel
theorem dL_law_531 : decode cL_law 531 = .ok (.iconst 2, 1) := by decide +kernel
theorem dL_law_532 : decode cL_law 532 = .ok (.iadd, 1) := by decide +kernel
theorem dL_law_533 : decode cL_law 533 = .ok (.iaload, 1) := by decide +kernel
theorem dL_law_534 : decode cL_law 534 = .ok (.invokevirtual 68, 3) := by decide +kernel
theorem dL_law_537 : decode cL_law 537 = .ok (.if_icmp .eq 51, 3) := by decide +kernel
theorem dL_law_540 : decode cL_law 540 = .ok (.iconst 0, 1) := by decide +kernel
theorem dL_law_541 : decode cL_law 541 = .ok (.ireturn, 1) := by decide +kernel
theorem dL_law_542 : decode cL_law 542 = .ok (.aload_n 1, 1) := by decide +kernel
theorem dL_law_543 : decode cL_law 543 = .ok (.aload_n 0, 1) := by decide +kernel
theorem dL_law_544 : decode cL_law 544 = .ok (.iload_n 3, 1) := by decide +kernel
theorem dL_law_545 : decode cL_law 545 = .ok (.iconst 1, 1) := by decide +kernel
theorem dL_law_546 : decode cL_law 546 = .ok (.iadd, 1) := by decide +kernel
theorem dL_law_547 : decode cL_law 547 = .ok (.iaload, 1) := by decide +kernel
theorem dL_law_548 : decode cL_law 548 = .ok (.invokevirtual 69, 3) := by decide +kernel
theorem dL_law_551 : decode cL_law 551 = .ok (.aload_n 2, 1) := by decide +kernel
theorem dL_law_552 : decode cL_law 552 = .ok (.aload_n 0, 1) := by decide +kernel
theorem dL_law_553 : decode cL_law 553 = .ok (.iload_n 3, 1) := by decide +kernel
theorem dL_law_554 : decode cL_law 554 = .ok (.iconst 1, 1) := by decide +kernel
theorem dL_law_555 : decode cL_law 555 = .ok (.iadd, 1) := by decide +kernel
theorem dL_law_556 : decode cL_law 556 = .ok (.iaload, 1) := by decide +kernel
theorem dL_law_557 : decode cL_law 557 = .ok (.invokevirtual 72, 3) := by decide +kernel
theorem dL_law_560 : decode cL_law 560 = .ok (.if_icmp .eq 28, 3) := by decide +kernel
theorem dL_law_563 : decode cL_law 563 = .ok (.iconst 0, 1) := by decide +kernel
theorem dL_law_564 : decode cL_law 564 = .ok (.ireturn, 1) := by decide +kernel
theorem dL_law_565 : decode cL_law 565 = .ok (.aload_n 1, 1) := by decide +kernel
theorem dL_law_566 : decode cL_law 566 = .ok (.aload_n 0, 1) := by decide +kernel
theorem dL_law_567 : decode cL_law 567 = .ok (.iload_n 3, 1) := by decide +kernel
theorem dL_law_568 : decode cL_law 568 = .ok (.iconst 1, 1) := by decide +kernel
theorem dL_law_569 : decode cL_law 569 = .ok (.iadd, 1) := by decide +kernel
theorem dL_law_570 : decode cL_law 570 = .ok (.iaload, 1) := by decide +kernel
theorem dL_law_571 : decode cL_law 571 = .ok (.invokevirtual 73, 3) := by decide +kernel
theorem dL_law_574 : decode cL_law 574 = .ok (.aload_n 2, 1) := by decide +kernel
theorem dL_law_575 : decode cL_law 575 = .ok (.aload_n 0, 1) := by decide +kernel
theorem dL_law_576 : decode cL_law 576 = .ok (.iload_n 3, 1) := by decide +kernel
theorem dL_law_577 : decode cL_law 577 = .ok (.iconst 1, 1) := by decide +kernel
theorem dL_law_578 : decode cL_law 578 = .ok (.iadd, 1) := by decide +kernel
theorem dL_law_579 : decode cL_law 579 = .ok (.iaload, 1) := by decide +kernel
theorem dL_law_580 : decode cL_law 580 = .ok (.invokevirtual 76, 3) := by decide +kernel
theorem dL_law_583 : decode cL_law 583 = .ok (.if_icmp .eq 5, 3) := by decide +kernel
theorem dL_law_586 : decode cL_law 586 = .ok (.iconst 0, 1) := by decide +kernel
theorem dL_law_587 : decode cL_law 587 = .ok (.ireturn, 1) := by decide +kernel
theorem dL_law_588 : decode cL_law 588 = .ok (.iinc 3 5, 3) := by decide +kernel
theorem dL_law_591 : decode cL_law 591 = .ok (.goto (-573), 3) := by decide +kernel
theorem dL_law_594 : decode cL_law 594 = .ok (.iconst 1, 1) := by decide +kernel
theorem dL_law_595 : decode cL_law 595 = .ok (.ireturn, 1) := by decide +kernel
