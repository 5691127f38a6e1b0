theorem dX8_isIn_0 : decode cX8_isIn 0 = .ok (.iload_n 0, 1) := by decide +kernel
theorem dX8_isIn_1 : decode cX8_isIn 1 = .ok (.iload_n 1, 1) := by decide +kernel
theorem dX8_isIn_2 : decode cX8_isIn 2 = .ok (.if_icmp .lt 12, 3) := by decide +kernel
theorem dX8_isIn_5 : decode cX8_isIn 5 = .ok (.iload_n 0, 1) := by decide +kernel
theorem dX8_isIn_6 : decode cX8_isIn 6 = .ok (.iload_n 2, 1) := by decide +kernel
theorem dX8_isIn_7 : decode cX8_isIn 7 = .ok (.if_icmp .gt 7, 3) := by decide +kernel
theorem dX8_isIn_10 : decode cX8_isIn 10 = .ok (.iconst 1, 1) := by decide +kernel
theorem dX8_isIn_11 : decode cX8_isIn 11 = .ok (.goto 4, 3) := by decide +kernel
theorem dX8_isIn_14 : decode cX8_isIn 14 = .ok (.iconst 0, 1) := by decide +kernel
theorem dX8_isIn_15 : decode cX8_isIn 15 = .ok (.ireturn, 1) := by decide +kernel
theorem dX8_thrown_0 : decode cX8_thrown 0 = .ok (.aload_n 0, 1) := by decide +kernel
theorem dX8_thrown_1 : decode cX8_thrown 1 = .ok (.getfield 1, 3) := by decide +kernel
theorem dX8_thrown_4 : decode cX8_thrown 4 = .ok (.ireturn, 1) := by decide +kernel
theorem dX8_fail_0 : decode cX8_fail 0 = .ok (.aload_n 0, 1) := by decide +kernel
theorem dX8_fail_1 : decode cX8_fail 1 = .ok (.iload_n 1, 1) := by decide +kernel
theorem dX8_fail_2 : decode cX8_fail 2 = .ok (.putfield 1, 3) := by decide +kernel
theorem dX8_fail_5 : decode cX8_fail 5 = .ok (.iconst 0, 1) := by decide +kernel
theorem dX8_fail_6 : decode cX8_fail 6 = .ok (.ireturn, 1) := by decide +kernel
theorem dX8_init_0 : decode cX8_init 0 = .ok (.aload_n 0, 1) := by decide +kernel
theorem dX8_init_1 : decode cX8_init 1 = .ok (.invokespecial 7, 3) := by decide +kernel
theorem dX8_init_4 : decode cX8_init 4 = .ok (.aload_n 0, 1) := by decide +kernel
theorem dX8_init_5 : decode cX8_init 5 = .ok (.sipush 668, 3) := by decide +kernel
theorem dX8_init_8 : decode cX8_init 8 = .ok (.newarray .int, 2) := by decide +kernel
theorem dX8_init_10 : decode cX8_init 10 = .ok (.putfield 13, 3) := by decide +kernel
theorem dX8_init_13 : decode cX8_init 13 = .ok (.aload_n 0, 1) := by decide +kernel
theorem dX8_init_14 : decode cX8_init 14 = .ok (.sipush 4008, 3) := by decide +kernel
theorem dX8_init_17 : decode cX8_init 17 = .ok (.newarray .int, 2) := by decide +kernel
theorem dX8_init_19 : decode cX8_init 19 = .ok (.putfield 17, 3) := by decide +kernel
theorem dX8_init_22 : decode cX8_init 22 = .ok (.aload_n 0, 1) := by decide +kernel
theorem dX8_init_23 : decode cX8_init 23 = .ok (.sipush 668, 3) := by decide +kernel
theorem dX8_init_26 : decode cX8_init 26 = .ok (.newarray .int, 2) := by decide +kernel
theorem dX8_init_28 : decode cX8_init 28 = .ok (.putfield 20, 3) := by decide +kernel
theorem dX8_init_31 : decode cX8_init 31 = .ok (.aload_n 0, 1) := by decide +kernel
theorem dX8_init_32 : decode cX8_init 32 = .ok (.sipush 668, 3) := by decide +kernel
theorem dX8_init_35 : decode cX8_init 35 = .ok (.newarray .int, 2) := by decide +kernel
theorem dX8_init_37 : decode cX8_init 37 = .ok (.putfield 23, 3) := by decide +kernel
theorem dX8_init_40 : decode cX8_init 40 = .ok (.aload_n 0, 1) := by decide +kernel
theorem dX8_init_41 : decode cX8_init 41 = .ok (.bipush 60, 2) := by decide +kernel
theorem dX8_init_43 : decode cX8_init 43 = .ok (.newarray .int, 2) := by decide +kernel
theorem dX8_init_45 : decode cX8_init 45 = .ok (.putfield 26, 3) := by decide +kernel
theorem dX8_init_48 : decode cX8_init 48 = .ok (.aload_n 0, 1) := by decide +kernel
theorem dX8_init_49 : decode cX8_init 49 = .ok (.iconst (-1), 1) := by decide +kernel
theorem dX8_init_50 : decode cX8_init 50 = .ok (.putfield 29, 3) := by decide +kernel
theorem dX8_init_53 : decode cX8_init 53 = .ok (.aload_n 0, 1) := by decide +kernel
theorem dX8_init_54 : decode cX8_init 54 = .ok (.bipush 12, 2) := by decide +kernel
theorem dX8_init_56 : decode cX8_init 56 = .ok (.newarray .int, 2) := by decide +kernel
theorem dX8_init_58 : decode cX8_init 58 = .ok (.putfield 32, 3) := by decide +kernel
theorem dX8_init_61 : decode cX8_init 61 = .ok (.aload_n 0, 1) := by decide +kernel
theorem dX8_init_62 : decode cX8_init 62 = .ok (.sipush 280, 3) := by decide +kernel
theorem dX8_init_65 : decode cX8_init 65 = .ok (.newarray .boolean, 2) := by decide +kernel
theorem dX8_init_67 : decode cX8_init 67 = .ok (.putfield 35, 3) := by decide +kernel
theorem dX8_init_70 : decode cX8_init 70 = .ok (.iconst 0, 1) := by decide +kernel
theorem dX8_init_71 : decode cX8_init 71 = .ok (.istore_n 1, 1) := by decide +kernel
theorem dX8_init_72 : decode cX8_init 72 = .ok (.iload_n 1, 1) := by decide +kernel
theorem dX8_init_73 : decode cX8_init 73 = .ok (.iconst 4, 1) := by decide +kernel
theorem dX8_init_74 : decode cX8_init 74 = .ok (.if_icmp .ge 109, 3) := by decide +kernel
theorem dX8_init_77 : decode cX8_init 77 = .ok (.aload_n 0, 1) := by decide +kernel
theorem dX8_init_78 : decode cX8_init 78 = .ok (.getfield 13, 3) := by decide +kernel
theorem dX8_init_81 : decode cX8_init 81 = .ok (.iconst 4, 1) := by decide +kernel
theorem dX8_init_82 : decode cX8_init 82 = .ok (.bipush 7, 2) := by decide +kernel
theorem dX8_init_84 : decode cX8_init 84 = .ok (.iload_n 1, 1) := by decide +kernel
theorem dX8_init_85 : decode cX8_init 85 = .ok (.imul, 1) := by decide +kernel
theorem dX8_init_86 : decode cX8_init 86 = .ok (.iadd, 1) := by decide +kernel
theorem dX8_init_87 : decode cX8_init 87 = .ok (.iconst 2, 1) := by decide +kernel
theorem dX8_init_88 : decode cX8_init 88 = .ok (.iastore, 1) := by decide +kernel
theorem dX8_init_89 : decode cX8_init 89 = .ok (.aload_n 0, 1) := by decide +kernel
theorem dX8_init_90 : decode cX8_init 90 = .ok (.getfield 13, 3) := by decide +kernel
theorem dX8_init_93 : decode cX8_init 93 = .ok (.iconst 4, 1) := by decide +kernel
theorem dX8_init_94 : decode cX8_init 94 = .ok (.bipush 7, 2) := by decide +kernel
theorem dX8_init_96 : decode cX8_init 96 = .ok (.iload_n 1, 1) := by decide +kernel
theorem dX8_init_97 : decode cX8_init 97 = .ok (.imul, 1) := by decide +kernel
theorem dX8_init_98 : decode cX8_init 98 = .ok (.iadd, 1) := by decide +kernel
theorem dX8_init_99 : decode cX8_init 99 = .ok (.iconst 1, 1) := by decide +kernel
theorem dX8_init_100 : decode cX8_init 100 = .ok (.iadd, 1) := by decide +kernel
theorem dX8_init_101 : decode cX8_init 101 = .ok (.iconst 1, 1) := by decide +kernel
theorem dX8_init_102 : decode cX8_init 102 = .ok (.iastore, 1) := by decide +kernel
theorem dX8_init_103 : decode cX8_init 103 = .ok (.aload_n 0, 1) := by decide +kernel
theorem dX8_init_104 : decode cX8_init 104 = .ok (.getfield 13, 3) := by decide +kernel
theorem dX8_init_107 : decode cX8_init 107 = .ok (.iconst 4, 1) := by decide +kernel
theorem dX8_init_108 : decode cX8_init 108 = .ok (.bipush 7, 2) := by decide +kernel
theorem dX8_init_110 : decode cX8_init 110 = .ok (.iload_n 1, 1) := by decide +kernel
theorem dX8_init_111 : decode cX8_init 111 = .ok (.imul, 1) := by decide +kernel
theorem dX8_init_112 : decode cX8_init 112 = .ok (.iadd, 1) := by decide +kernel
theorem dX8_init_113 : decode cX8_init 113 = .ok (.iconst 2, 1) := by decide +kernel
theorem dX8_init_114 : decode cX8_init 114 = .ok (.iadd, 1) := by decide +kernel
theorem dX8_init_115 : decode cX8_init 115 = .ok (.bipush 50, 2) := by decide +kernel
theorem dX8_init_117 : decode cX8_init 117 = .ok (.iastore, 1) := by decide +kernel
theorem dX8_init_118 : decode cX8_init 118 = .ok (.aload_n 0, 1) := by decide +kernel
theorem dX8_init_119 : decode cX8_init 119 = .ok (.getfield 13, 3) := by decide +kernel
theorem dX8_init_122 : decode cX8_init 122 = .ok (.iconst 4, 1) := by decide +kernel
theorem dX8_init_123 : decode cX8_init 123 = .ok (.bipush 7, 2) := by decide +kernel
theorem dX8_init_125 : decode cX8_init 125 = .ok (.iload_n 1, 1) := by decide +kernel
theorem dX8_init_126 : decode cX8_init 126 = .ok (.imul, 1) := by decide +kernel
theorem dX8_init_127 : decode cX8_init 127 = .ok (.iadd, 1) := by decide +kernel
theorem dX8_init_128 : decode cX8_init 128 = .ok (.iconst 3, 1) := by decide +kernel
theorem dX8_init_129 : decode cX8_init 129 = .ok (.iadd, 1) := by decide +kernel
theorem dX8_init_130 : decode cX8_init 130 = .ok (.iconst 3, 1) := by decide +kernel
theorem dX8_init_131 : decode cX8_init 131 = .ok (.iastore, 1) := by decide +kernel
theorem dX8_init_132 : decode cX8_init 132 = .ok (.aload_n 0, 1) := by decide +kernel
theorem dX8_init_133 : decode cX8_init 133 = .ok (.getfield 13, 3) := by decide +kernel
theorem dX8_init_136 : decode cX8_init 136 = .ok (.iconst 4, 1) := by decide +kernel
theorem dX8_init_137 : decode cX8_init 137 = .ok (.bipush 7, 2) := by decide +kernel
theorem dX8_init_139 : decode cX8_init 139 = .ok (.iload_n 1, 1) := by decide +kernel
theorem dX8_init_140 : decode cX8_init 140 = .ok (.imul, 1) := by decide +kernel
theorem dX8_init_141 : decode cX8_init 141 = .ok (.iadd, 1) := by decide +kernel
theorem dX8_init_142 : decode cX8_init 142 = .ok (.iconst 4, 1) := by decide +kernel
theorem dX8_init_143 : decode cX8_init 143 = .ok (.iadd, 1) := by decide +kernel
theorem dX8_init_144 : decode cX8_init 144 = .ok (.bipush 10, 2) := by decide +kernel
theorem dX8_init_146 : decode cX8_init 146 = .ok (.iastore, 1) := by decide +kernel
theorem dX8_init_147 : decode cX8_init 147 = .ok (.aload_n 0, 1) := by decide +kernel
theorem dX8_init_148 : decode cX8_init 148 = .ok (.getfield 13, 3) := by decide +kernel
theorem dX8_init_151 : decode cX8_init 151 = .ok (.iconst 4, 1) := by decide +kernel
theorem dX8_init_152 : decode cX8_init 152 = .ok (.bipush 7, 2) := by decide +kernel
theorem dX8_init_154 : decode cX8_init 154 = .ok (.iload_n 1, 1) := by decide +kernel
theorem dX8_init_155 : decode cX8_init 155 = .ok (.imul, 1) := by decide +kernel
theorem dX8_init_156 : decode cX8_init 156 = .ok (.iadd, 1) := by decide +kernel
theorem dX8_init_157 : decode cX8_init 157 = .ok (.iconst 5, 1) := by decide +kernel
theorem dX8_init_158 : decode cX8_init 158 = .ok (.iadd, 1) := by decide +kernel
theorem dX8_init_159 : decode cX8_init 159 = .ok (.bipush 63, 2) := by decide +kernel
theorem dX8_init_161 : decode cX8_init 161 = .ok (.iastore, 1) := by decide +kernel
theorem dX8_init_162 : decode cX8_init 162 = .ok (.aload_n 0, 1) := by decide +kernel
theorem dX8_init_163 : decode cX8_init 163 = .ok (.getfield 13, 3) := by decide +kernel
theorem dX8_init_166 : decode cX8_init 166 = .ok (.iconst 4, 1) := by decide +kernel
theorem dX8_init_167 : decode cX8_init 167 = .ok (.bipush 7, 2) := by decide +kernel
theorem dX8_init_169 : decode cX8_init 169 = .ok (.iload_n 1, 1) := by decide +kernel
theorem dX8_init_170 : decode cX8_init 170 = .ok (.imul, 1) := by decide +kernel
theorem dX8_init_171 : decode cX8_init 171 = .ok (.iadd, 1) := by decide +kernel
theorem dX8_init_172 : decode cX8_init 172 = .ok (.bipush 6, 2) := by decide +kernel
theorem dX8_init_174 : decode cX8_init 174 = .ok (.iadd, 1) := by decide +kernel
theorem dX8_init_175 : decode cX8_init 175 = .ok (.iconst 1, 1) := by decide +kernel
theorem dX8_init_176 : decode cX8_init 176 = .ok (.iastore, 1) := by decide +kernel
theorem dX8_init_177 : decode cX8_init 177 = .ok (.iinc 1 1, 3) := by decide +kernel
theorem dX8_init_180 : decode cX8_init 180 = .ok (.goto (-108), 3) := by decide +kernel
theorem dX8_init_183 : decode cX8_init 183 = .ok (.return_, 1) := by decide +kernel
theorem dX8_copy_0 : decode cX8_copy 0 = .ok (.iconst 0, 1) := by decide +kernel
theorem dX8_copy_1 : decode cX8_copy 1 = .ok (.istore_n 2, 1) := by decide +kernel
theorem dX8_copy_2 : decode cX8_copy 2 = .ok (.iload_n 2, 1) := by decide +kernel
theorem dX8_copy_3 : decode cX8_copy 3 = .ok (.sipush 668, 3) := by decide +kernel
theorem dX8_copy_6 : decode cX8_copy 6 = .ok (.if_icmp .ge 15, 3) := by decide +kernel
theorem dX8_copy_9 : decode cX8_copy 9 = .ok (.aload_n 1, 1) := by decide +kernel
theorem dX8_copy_10 : decode cX8_copy 10 = .ok (.iload_n 2, 1) := by decide +kernel
theorem dX8_copy_11 : decode cX8_copy 11 = .ok (.aload_n 0, 1) := by decide +kernel
theorem dX8_copy_12 : decode cX8_copy 12 = .ok (.iload_n 2, 1) := by decide +kernel
theorem dX8_copy_13 : decode cX8_copy 13 = .ok (.iaload, 1) := by decide +kernel
theorem dX8_copy_14 : decode cX8_copy 14 = .ok (.iastore, 1) := by decide +kernel
theorem dX8_copy_15 : decode cX8_copy 15 = .ok (.iinc 2 1, 3) := by decide +kernel
theorem dX8_copy_18 : decode cX8_copy 18 = .ok (.goto (-16), 3) := by decide +kernel
theorem dX8_copy_21 : decode cX8_copy 21 = .ok (.return_, 1) := by decide +kernel
theorem dX8_remember_0 : decode cX8_remember 0 = .ok (.aload_n 0, 1) := by decide +kernel
theorem dX8_remember_1 : decode cX8_remember 1 = .ok (.getfield 39, 3) := by decide +kernel
theorem dX8_remember_4 : decode cX8_remember 4 = .ok (.bipush 6, 2) := by decide +kernel
theorem dX8_remember_6 : decode cX8_remember 6 = .ok (.if_icmp .ne 44, 3) := by decide +kernel
theorem dX8_remember_9 : decode cX8_remember 9 = .ok (.iconst 0, 1) := by decide +kernel
theorem dX8_remember_10 : decode cX8_remember 10 = .ok (.istore_n 1, 1) := by decide +kernel
theorem dX8_remember_11 : decode cX8_remember 11 = .ok (.iload_n 1, 1) := by decide +kernel
theorem dX8_remember_12 : decode cX8_remember 12 = .ok (.sipush 3340, 3) := by decide +kernel
theorem dX8_remember_15 : decode cX8_remember 15 = .ok (.if_icmp .ge 25, 3) := by decide +kernel
theorem dX8_remember_18 : decode cX8_remember 18 = .ok (.aload_n 0, 1) := by decide +kernel
theorem dX8_remember_19 : decode cX8_remember 19 = .ok (.getfield 17, 3) := by decide +kernel
theorem dX8_remember_22 : decode cX8_remember 22 = .ok (.iload_n 1, 1) := by decide +kernel
theorem dX8_remember_23 : decode cX8_remember 23 = .ok (.aload_n 0, 1) := by decide +kernel
theorem dX8_remember_24 : decode cX8_remember 24 = .ok (.getfield 17, 3) := by decide +kernel
theorem dX8_remember_27 : decode cX8_remember 27 = .ok (.iload_n 1, 1) := by decide +kernel
theorem dX8_remember_28 : decode cX8_remember 28 = .ok (.sipush 668, 3) := by decide +kernel
theorem dX8_remember_31 : decode cX8_remember 31 = .ok (.iadd, 1) := by decide +kernel
theorem dX8_remember_32 : decode cX8_remember 32 = .ok (.iaload, 1) := by decide +kernel
theorem dX8_remember_33 : decode cX8_remember 33 = .ok (.iastore, 1) := by decide +kernel
theorem dX8_remember_34 : decode cX8_remember 34 = .ok (.iinc 1 1, 3) := by decide +kernel
theorem dX8_remember_37 : decode cX8_remember 37 = .ok (.goto (-26), 3) := by decide +kernel
theorem dX8_remember_40 : decode cX8_remember 40 = .ok (.aload_n 0, 1) := by decide +kernel
theorem dX8_remember_41 : decode cX8_remember 41 = .ok (.dup, 1) := by decide +kernel
theorem dX8_remember_42 : decode cX8_remember 42 = .ok (.getfield 39, 3) := by decide +kernel
theorem dX8_remember_45 : decode cX8_remember 45 = .ok (.iconst 1, 1) := by decide +kernel
theorem dX8_remember_46 : decode cX8_remember 46 = .ok (.isub, 1) := by decide +kernel
theorem dX8_remember_47 : decode cX8_remember 47 = .ok (.putfield 39, 3) := by decide +kernel
theorem dX8_remember_50 : decode cX8_remember 50 = .ok (.iconst 0, 1) := by decide +kernel
theorem dX8_remember_51 : decode cX8_remember 51 = .ok (.istore_n 1, 1) := by decide +kernel
theorem dX8_remember_52 : decode cX8_remember 52 = .ok (.iload_n 1, 1) := by decide +kernel
theorem dX8_remember_53 : decode cX8_remember 53 = .ok (.sipush 668, 3) := by decide +kernel
theorem dX8_remember_56 : decode cX8_remember 56 = .ok (.if_icmp .ge 30, 3) := by decide +kernel
theorem dX8_remember_59 : decode cX8_remember 59 = .ok (.aload_n 0, 1) := by decide +kernel
theorem dX8_remember_60 : decode cX8_remember 60 = .ok (.getfield 17, 3) := by decide +kernel
theorem dX8_remember_63 : decode cX8_remember 63 = .ok (.sipush 668, 3) := by decide +kernel
theorem dX8_remember_66 : decode cX8_remember 66 = .ok (.aload_n 0, 1) := by decide +kernel
theorem dX8_remember_67 : decode cX8_remember 67 = .ok (.getfield 39, 3) := by decide +kernel
theorem dX8_remember_70 : decode cX8_remember 70 = .ok (.imul, 1) := by decide +kernel
theorem dX8_remember_71 : decode cX8_remember 71 = .ok (.iload_n 1, 1) := by decide +kernel
theorem dX8_remember_72 : decode cX8_remember 72 = .ok (.iadd, 1) := by decide +kernel
theorem dX8_remember_73 : decode cX8_remember 73 = .ok (.aload_n 0, 1) := by decide +kernel
theorem dX8_remember_74 : decode cX8_remember 74 = .ok (.getfield 20, 3) := by decide +kernel
theorem dX8_remember_77 : decode cX8_remember 77 = .ok (.iload_n 1, 1) := by decide +kernel
theorem dX8_remember_78 : decode cX8_remember 78 = .ok (.iaload, 1) := by decide +kernel
theorem dX8_remember_79 : decode cX8_remember 79 = .ok (.iastore, 1) := by decide +kernel
theorem dX8_remember_80 : decode cX8_remember 80 = .ok (.iinc 1 1, 3) := by decide +kernel
theorem dX8_remember_83 : decode cX8_remember 83 = .ok (.goto (-31), 3) := by decide +kernel
theorem dX8_remember_86 : decode cX8_remember 86 = .ok (.aload_n 0, 1) := by decide +kernel
theorem dX8_remember_87 : decode cX8_remember 87 = .ok (.dup, 1) := by decide +kernel
theorem dX8_remember_88 : decode cX8_remember 88 = .ok (.getfield 39, 3) := by decide +kernel
theorem dX8_remember_91 : decode cX8_remember 91 = .ok (.iconst 1, 1) := by decide +kernel
theorem dX8_remember_92 : decode cX8_remember 92 = .ok (.iadd, 1) := by decide +kernel
theorem dX8_remember_93 : decode cX8_remember 93 = .ok (.putfield 39, 3) := by decide +kernel
theorem dX8_remember_96 : decode cX8_remember 96 = .ok (.return_, 1) := by decide +kernel
theorem dX8_call_0 : decode cX8_call 0 = .ok (.aload_n 0, 1) := by decide +kernel
theorem dX8_call_1 : decode cX8_call 1 = .ok (.getfield 13, 3) := by decide +kernel
theorem dX8_call_4 : decode cX8_call 4 = .ok (.aload_n 0, 1) := by decide +kernel
theorem dX8_call_5 : decode cX8_call 5 = .ok (.getfield 20, 3) := by decide +kernel
theorem dX8_call_8 : decode cX8_call 8 = .ok (.invokestatic 42, 3) := by decide +kernel
theorem dX8_call_11 : decode cX8_call 11 = .ok (.aload_n 0, 1) := by decide +kernel
theorem dX8_call_12 : decode cX8_call 12 = .ok (.invokevirtual 46, 3) := by decide +kernel
theorem dX8_call_15 : decode cX8_call 15 = .ok (.return_, 1) := by decide +kernel
theorem dX8_isLot_0 : decode cX8_isLot 0 = .ok (.iload_n 1, 1) := by decide +kernel
theorem dX8_isLot_1 : decode cX8_isLot 1 = .ok (.iconst 0, 1) := by decide +kernel
theorem dX8_isLot_2 : decode cX8_isLot 2 = .ok (.aload_n 0, 1) := by decide +kernel
theorem dX8_isLot_3 : decode cX8_isLot 3 = .ok (.getfield 13, 3) := by decide +kernel
theorem dX8_isLot_6 : decode cX8_isLot 6 = .ok (.iconst 1, 1) := by decide +kernel
theorem dX8_isLot_7 : decode cX8_isLot 7 = .ok (.iaload, 1) := by decide +kernel
theorem dX8_isLot_8 : decode cX8_isLot 8 = .ok (.iconst 1, 1) := by decide +kernel
theorem dX8_isLot_9 : decode cX8_isLot 9 = .ok (.isub, 1) := by decide +kernel
theorem dX8_isLot_10 : decode cX8_isLot 10 = .ok (.invokestatic 49, 3) := by decide +kernel
theorem dX8_isLot_13 : decode cX8_isLot 13 = .ok (.ireturn, 1) := by decide +kernel
theorem dX8_isPermit_0 : decode cX8_isPermit 0 = .ok (.iload_n 1, 1) := by decide +kernel
theorem dX8_isPermit_1 : decode cX8_isPermit 1 = .ok (.iconst 0, 1) := by decide +kernel
theorem dX8_isPermit_2 : decode cX8_isPermit 2 = .ok (.aload_n 0, 1) := by decide +kernel
theorem dX8_isPermit_3 : decode cX8_isPermit 3 = .ok (.getfield 13, 3) := by decide +kernel
theorem dX8_isPermit_6 : decode cX8_isPermit 6 = .ok (.iconst 2, 1) := by decide +kernel
theorem dX8_isPermit_7 : decode cX8_isPermit 7 = .ok (.iaload, 1) := by decide +kernel
theorem dX8_isPermit_8 : decode cX8_isPermit 8 = .ok (.iconst 1, 1) := by decide +kernel
theorem dX8_isPermit_9 : decode cX8_isPermit 9 = .ok (.isub, 1) := by decide +kernel
theorem dX8_isPermit_10 : decode cX8_isPermit 10 = .ok (.invokestatic 49, 3) := by decide +kernel
theorem dX8_isPermit_13 : decode cX8_isPermit 13 = .ok (.ireturn, 1) := by decide +kernel
theorem dX8_lotPart_0 : decode cX8_lotPart 0 = .ok (.aload_n 0, 1) := by decide +kernel
theorem dX8_lotPart_1 : decode cX8_lotPart 1 = .ok (.getfield 13, 3) := by decide +kernel
theorem dX8_lotPart_4 : decode cX8_lotPart 4 = .ok (.bipush 32, 2) := by decide +kernel
theorem dX8_lotPart_6 : decode cX8_lotPart 6 = .ok (.bipush 16, 2) := by decide +kernel
theorem dX8_lotPart_8 : decode cX8_lotPart 8 = .ok (.iload_n 1, 1) := by decide +kernel
theorem dX8_lotPart_9 : decode cX8_lotPart 9 = .ok (.imul, 1) := by decide +kernel
theorem dX8_lotPart_10 : decode cX8_lotPart 10 = .ok (.iadd, 1) := by decide +kernel
theorem dX8_lotPart_11 : decode cX8_lotPart 11 = .ok (.iload_n 2, 1) := by decide +kernel
theorem dX8_lotPart_12 : decode cX8_lotPart 12 = .ok (.iadd, 1) := by decide +kernel
theorem dX8_lotPart_13 : decode cX8_lotPart 13 = .ok (.iaload, 1) := by decide +kernel
theorem dX8_lotPart_14 : decode cX8_lotPart 14 = .ok (.ireturn, 1) := by decide +kernel
theorem dX8_at_0 : decode cX8_at 0 = .ok (.aload_n 0, 1) := by decide +kernel
theorem dX8_at_1 : decode cX8_at 1 = .ok (.getfield 13, 3) := by decide +kernel
theorem dX8_at_4 : decode cX8_at 4 = .ok (.sipush 160, 3) := by decide +kernel
theorem dX8_at_7 : decode cX8_at 7 = .ok (.bipush 46, 2) := by decide +kernel
theorem dX8_at_9 : decode cX8_at 9 = .ok (.iload_n 1, 1) := by decide +kernel
theorem dX8_at_10 : decode cX8_at 10 = .ok (.imul, 1) := by decide +kernel
theorem dX8_at_11 : decode cX8_at 11 = .ok (.iadd, 1) := by decide +kernel
theorem dX8_at_12 : decode cX8_at 12 = .ok (.iload_n 2, 1) := by decide +kernel
theorem dX8_at_13 : decode cX8_at 13 = .ok (.iadd, 1) := by decide +kernel
theorem dX8_at_14 : decode cX8_at 14 = .ok (.iaload, 1) := by decide +kernel
theorem dX8_at_15 : decode cX8_at 15 = .ok (.ireturn, 1) := by decide +kernel
theorem dX8_set_0 : decode cX8_set 0 = .ok (.aload_n 0, 1) := by decide +kernel
theorem dX8_set_1 : decode cX8_set 1 = .ok (.getfield 13, 3) := by decide +kernel
theorem dX8_set_4 : decode cX8_set 4 = .ok (.sipush 160, 3) := by decide +kernel
theorem dX8_set_7 : decode cX8_set 7 = .ok (.bipush 46, 2) := by decide +kernel
theorem dX8_set_9 : decode cX8_set 9 = .ok (.iload_n 1, 1) := by decide +kernel
theorem dX8_set_10 : decode cX8_set 10 = .ok (.imul, 1) := by decide +kernel
theorem dX8_set_11 : decode cX8_set 11 = .ok (.iadd, 1) := by decide +kernel
theorem dX8_set_12 : decode cX8_set 12 = .ok (.iload_n 2, 1) := by decide +kernel
theorem dX8_set_13 : decode cX8_set 13 = .ok (.iadd, 1) := by decide +kernel
theorem dX8_set_14 : decode cX8_set 14 = .ok (.iload_n 3, 1) := by decide +kernel
theorem dX8_set_15 : decode cX8_set 15 = .ok (.iastore, 1) := by decide +kernel
theorem dX8_set_16 : decode cX8_set 16 = .ok (.return_, 1) := by decide +kernel
theorem dX8_isInArea_0 : decode cX8_isInArea 0 = .ok (.iconst 0, 1) := by decide +kernel
theorem dX8_isInArea_1 : decode cX8_isInArea 1 = .ok (.istore 4, 2) := by decide +kernel
theorem dX8_isInArea_3 : decode cX8_isInArea 3 = .ok (.iconst 0, 1) := by decide +kernel
theorem dX8_isInArea_4 : decode cX8_isInArea 4 = .ok (.istore 5, 2) := by decide +kernel
theorem dX8_isInArea_6 : decode cX8_isInArea 6 = .ok (.iload 5, 2) := by decide +kernel
theorem dX8_isInArea_8 : decode cX8_isInArea 8 = .ok (.aload_n 0, 1) := by decide +kernel
theorem dX8_isInArea_9 : decode cX8_isInArea 9 = .ok (.getfield 13, 3) := by decide +kernel
theorem dX8_isInArea_12 : decode cX8_isInArea 12 = .ok (.iload_n 1, 1) := by decide +kernel
theorem dX8_isInArea_13 : decode cX8_isInArea 13 = .ok (.iconst 2, 1) := by decide +kernel
theorem dX8_isInArea_14 : decode cX8_isInArea 14 = .ok (.iadd, 1) := by decide +kernel
theorem dX8_isInArea_15 : decode cX8_isInArea 15 = .ok (.iaload, 1) := by decide +kernel
theorem dX8_isInArea_16 : decode cX8_isInArea 16 = .ok (.if_icmp .ge 101, 3) := by decide +kernel
theorem dX8_isInArea_19 : decode cX8_isInArea 19 = .ok (.iload_n 1, 1) := by decide +kernel
theorem dX8_isInArea_20 : decode cX8_isInArea 20 = .ok (.iconst 3, 1) := by decide +kernel
theorem dX8_isInArea_21 : decode cX8_isInArea 21 = .ok (.iadd, 1) := by decide +kernel
theorem dX8_isInArea_22 : decode cX8_isInArea 22 = .ok (.iconst 4, 1) := by decide +kernel
theorem dX8_isInArea_23 : decode cX8_isInArea 23 = .ok (.iload 5, 2) := by decide +kernel
theorem dX8_isInArea_25 : decode cX8_isInArea 25 = .ok (.imul, 1) := by decide +kernel
theorem dX8_isInArea_26 : decode cX8_isInArea 26 = .ok (.iadd, 1) := by decide +kernel
theorem dX8_isInArea_27 : decode cX8_isInArea 27 = .ok (.istore 6, 2) := by decide +kernel
theorem dX8_isInArea_29 : decode cX8_isInArea 29 = .ok (.iload 4, 2) := by decide +kernel
theorem dX8_isInArea_31 : decode cX8_isInArea 31 = .ok (.ifCond .ne 73, 3) := by decide +kernel
theorem dX8_isInArea_34 : decode cX8_isInArea 34 = .ok (.iload_n 2, 1) := by decide +kernel
theorem dX8_isInArea_35 : decode cX8_isInArea 35 = .ok (.aload_n 0, 1) := by decide +kernel
theorem dX8_isInArea_36 : decode cX8_isInArea 36 = .ok (.getfield 13, 3) := by decide +kernel
theorem dX8_isInArea_39 : decode cX8_isInArea 39 = .ok (.iload 6, 2) := by decide +kernel
theorem dX8_isInArea_41 : decode cX8_isInArea 41 = .ok (.iaload, 1) := by decide +kernel
theorem dX8_isInArea_42 : decode cX8_isInArea 42 = .ok (.aload_n 0, 1) := by decide +kernel
theorem dX8_isInArea_43 : decode cX8_isInArea 43 = .ok (.getfield 13, 3) := by decide +kernel
theorem dX8_isInArea_46 : decode cX8_isInArea 46 = .ok (.iload 6, 2) := by decide +kernel
theorem dX8_isInArea_48 : decode cX8_isInArea 48 = .ok (.iaload, 1) := by decide +kernel
theorem dX8_isInArea_49 : decode cX8_isInArea 49 = .ok (.aload_n 0, 1) := by decide +kernel
theorem dX8_isInArea_50 : decode cX8_isInArea 50 = .ok (.getfield 13, 3) := by decide +kernel
theorem dX8_isInArea_53 : decode cX8_isInArea 53 = .ok (.iload 6, 2) := by decide +kernel
theorem dX8_isInArea_55 : decode cX8_isInArea 55 = .ok (.iconst 2, 1) := by decide +kernel
theorem dX8_isInArea_56 : decode cX8_isInArea 56 = .ok (.iadd, 1) := by decide +kernel
theorem dX8_isInArea_57 : decode cX8_isInArea 57 = .ok (.iaload, 1) := by decide +kernel
theorem dX8_isInArea_58 : decode cX8_isInArea 58 = .ok (.iadd, 1) := by decide +kernel
theorem dX8_isInArea_59 : decode cX8_isInArea 59 = .ok (.iconst 1, 1) := by decide +kernel
theorem dX8_isInArea_60 : decode cX8_isInArea 60 = .ok (.isub, 1) := by decide +kernel
theorem dX8_isInArea_61 : decode cX8_isInArea 61 = .ok (.invokestatic 49, 3) := by decide +kernel
theorem dX8_isInArea_64 : decode cX8_isInArea 64 = .ok (.ifCond .eq 44, 3) := by decide +kernel
theorem dX8_isInArea_67 : decode cX8_isInArea 67 = .ok (.iload_n 3, 1) := by decide +kernel
theorem dX8_isInArea_68 : decode cX8_isInArea 68 = .ok (.aload_n 0, 1) := by decide +kernel
theorem dX8_isInArea_69 : decode cX8_isInArea 69 = .ok (.getfield 13, 3) := by decide +kernel
theorem dX8_isInArea_72 : decode cX8_isInArea 72 = .ok (.iload 6, 2) := by decide +kernel
theorem dX8_isInArea_74 : decode cX8_isInArea 74 = .ok (.iconst 1, 1) := by decide +kernel
theorem dX8_isInArea_75 : decode cX8_isInArea 75 = .ok (.iadd, 1) := by decide +kernel
theorem dX8_isInArea_76 : decode cX8_isInArea 76 = .ok (.iaload, 1) := by decide +kernel
theorem dX8_isInArea_77 : decode cX8_isInArea 77 = .ok (.aload_n 0, 1) := by decide +kernel
theorem dX8_isInArea_78 : decode cX8_isInArea 78 = .ok (.getfield 13, 3) := by decide +kernel
theorem dX8_isInArea_81 : decode cX8_isInArea 81 = .ok (.iload 6, 2) := by decide +kernel
theorem dX8_isInArea_83 : decode cX8_isInArea 83 = .ok (.iconst 1, 1) := by decide +kernel
theorem dX8_isInArea_84 : decode cX8_isInArea 84 = .ok (.iadd, 1) := by decide +kernel
theorem dX8_isInArea_85 : decode cX8_isInArea 85 = .ok (.iaload, 1) := by decide +kernel
theorem dX8_isInArea_86 : decode cX8_isInArea 86 = .ok (.aload_n 0, 1) := by decide +kernel
theorem dX8_isInArea_87 : decode cX8_isInArea 87 = .ok (.getfield 13, 3) := by decide +kernel
theorem dX8_isInArea_90 : decode cX8_isInArea 90 = .ok (.iload 6, 2) := by decide +kernel
theorem dX8_isInArea_92 : decode cX8_isInArea 92 = .ok (.iconst 3, 1) := by decide +kernel
theorem dX8_isInArea_93 : decode cX8_isInArea 93 = .ok (.iadd, 1) := by decide +kernel
theorem dX8_isInArea_94 : decode cX8_isInArea 94 = .ok (.iaload, 1) := by decide +kernel
theorem dX8_isInArea_95 : decode cX8_isInArea 95 = .ok (.iadd, 1) := by decide +kernel
theorem dX8_isInArea_96 : decode cX8_isInArea 96 = .ok (.iconst 1, 1) := by decide +kernel
theorem dX8_isInArea_97 : decode cX8_isInArea 97 = .ok (.isub, 1) := by decide +kernel
theorem dX8_isInArea_98 : decode cX8_isInArea 98 = .ok (.invokestatic 49, 3) := by decide +kernel
theorem dX8_isInArea_101 : decode cX8_isInArea 101 = .ok (.ifCond .eq 7, 3) := by decide +kernel
theorem dX8_isInArea_104 : decode cX8_isInArea 104 = .ok (.iconst 1, 1) := by decide +kernel
theorem dX8_isInArea_105 : decode cX8_isInArea 105 = .ok (.goto 4, 3) := by decide +kernel
theorem dX8_isInArea_108 : decode cX8_isInArea 108 = .ok (.iconst 0, 1) := by decide +kernel
theorem dX8_isInArea_109 : decode cX8_isInArea 109 = .ok (.istore 4, 2) := by decide +kernel
theorem dX8_isInArea_111 : decode cX8_isInArea 111 = .ok (.iinc 5 1, 3) := by decide +kernel
theorem dX8_isInArea_114 : decode cX8_isInArea 114 = .ok (.goto (-108), 3) := by decide +kernel
theorem dX8_isInArea_117 : decode cX8_isInArea 117 = .ok (.iload 4, 2) := by decide +kernel
theorem dX8_isInArea_119 : decode cX8_isInArea 119 = .ok (.ireturn, 1) := by decide +kernel
theorem dX8_isInLot_0 : decode cX8_isInLot 0 = .ok (.aload_n 0, 1) := by decide +kernel
theorem dX8_isInLot_1 : decode cX8_isInLot 1 = .ok (.bipush 32, 2) := by decide +kernel
theorem dX8_isInLot_3 : decode cX8_isInLot 3 = .ok (.bipush 16, 2) := by decide +kernel
theorem dX8_isInLot_5 : decode cX8_isInLot 5 = .ok (.iload_n 1, 1) := by decide +kernel
theorem dX8_isInLot_6 : decode cX8_isInLot 6 = .ok (.imul, 1) := by decide +kernel
theorem dX8_isInLot_7 : decode cX8_isInLot 7 = .ok (.iadd, 1) := by decide +kernel
theorem dX8_isInLot_8 : decode cX8_isInLot 8 = .ok (.iload_n 2, 1) := by decide +kernel
theorem dX8_isInLot_9 : decode cX8_isInLot 9 = .ok (.iload_n 3, 1) := by decide +kernel
theorem dX8_isInLot_10 : decode cX8_isInLot 10 = .ok (.invokevirtual 53, 3) := by decide +kernel
theorem dX8_isInLot_13 : decode cX8_isInLot 13 = .ok (.ireturn, 1) := by decide +kernel
theorem dX8_isInBuilding_0 : decode cX8_isInBuilding 0 = .ok (.aload_n 0, 1) := by decide +kernel
theorem dX8_isInBuilding_1 : decode cX8_isInBuilding 1 = .ok (.sipush 160, 3) := by decide +kernel
theorem dX8_isInBuilding_4 : decode cX8_isInBuilding 4 = .ok (.bipush 46, 2) := by decide +kernel
theorem dX8_isInBuilding_6 : decode cX8_isInBuilding 6 = .ok (.iload_n 1, 1) := by decide +kernel
theorem dX8_isInBuilding_7 : decode cX8_isInBuilding 7 = .ok (.imul, 1) := by decide +kernel
theorem dX8_isInBuilding_8 : decode cX8_isInBuilding 8 = .ok (.iadd, 1) := by decide +kernel
theorem dX8_isInBuilding_9 : decode cX8_isInBuilding 9 = .ok (.iload_n 2, 1) := by decide +kernel
theorem dX8_isInBuilding_10 : decode cX8_isInBuilding 10 = .ok (.iload_n 3, 1) := by decide +kernel
theorem dX8_isInBuilding_11 : decode cX8_isInBuilding 11 = .ok (.invokevirtual 53, 3) := by decide +kernel
theorem dX8_isInBuilding_14 : decode cX8_isInBuilding 14 = .ok (.ireturn, 1) := by decide +kernel
theorem dX8_cellsOf_0 : decode cX8_cellsOf 0 = .ok (.iconst 0, 1) := by decide +kernel
theorem dX8_cellsOf_1 : decode cX8_cellsOf 1 = .ok (.istore_n 2, 1) := by decide +kernel
theorem dX8_cellsOf_2 : decode cX8_cellsOf 2 = .ok (.iconst 0, 1) := by decide +kernel
theorem dX8_cellsOf_3 : decode cX8_cellsOf 3 = .ok (.istore_n 3, 1) := by decide +kernel
theorem dX8_cellsOf_4 : decode cX8_cellsOf 4 = .ok (.iload_n 3, 1) := by decide +kernel
theorem dX8_cellsOf_5 : decode cX8_cellsOf 5 = .ok (.sipush 280, 3) := by decide +kernel
theorem dX8_cellsOf_8 : decode cX8_cellsOf 8 = .ok (.if_icmp .ge 33, 3) := by decide +kernel
theorem dX8_cellsOf_11 : decode cX8_cellsOf 11 = .ok (.iload_n 2, 1) := by decide +kernel
theorem dX8_cellsOf_12 : decode cX8_cellsOf 12 = .ok (.aload_n 0, 1) := by decide +kernel
theorem dX8_cellsOf_13 : decode cX8_cellsOf 13 = .ok (.iload_n 1, 1) := by decide +kernel
theorem dX8_cellsOf_14 : decode cX8_cellsOf 14 = .ok (.iload_n 3, 1) := by decide +kernel
theorem dX8_cellsOf_15 : decode cX8_cellsOf 15 = .ok (.bipush 20, 2) := by decide +kernel
theorem dX8_cellsOf_17 : decode cX8_cellsOf 17 = .ok (.irem, 1) := by decide +kernel
theorem dX8_cellsOf_18 : decode cX8_cellsOf 18 = .ok (.iload_n 3, 1) := by decide +kernel
theorem dX8_cellsOf_19 : decode cX8_cellsOf 19 = .ok (.bipush 20, 2) := by decide +kernel
theorem dX8_cellsOf_21 : decode cX8_cellsOf 21 = .ok (.idiv, 1) := by decide +kernel
theorem dX8_cellsOf_22 : decode cX8_cellsOf 22 = .ok (.invokevirtual 53, 3) := by decide +kernel
theorem dX8_cellsOf_25 : decode cX8_cellsOf 25 = .ok (.ifCond .eq 7, 3) := by decide +kernel
theorem dX8_cellsOf_28 : decode cX8_cellsOf 28 = .ok (.iconst 1, 1) := by decide +kernel
theorem dX8_cellsOf_29 : decode cX8_cellsOf 29 = .ok (.goto 4, 3) := by decide +kernel
theorem dX8_cellsOf_32 : decode cX8_cellsOf 32 = .ok (.iconst 0, 1) := by decide +kernel
theorem dX8_cellsOf_33 : decode cX8_cellsOf 33 = .ok (.iadd, 1) := by decide +kernel
theorem dX8_cellsOf_34 : decode cX8_cellsOf 34 = .ok (.istore_n 2, 1) := by decide +kernel
theorem dX8_cellsOf_35 : decode cX8_cellsOf 35 = .ok (.iinc 3 1, 3) := by decide +kernel
theorem dX8_cellsOf_38 : decode cX8_cellsOf 38 = .ok (.goto (-34), 3) := by decide +kernel
theorem dX8_cellsOf_41 : decode cX8_cellsOf 41 = .ok (.iload_n 2, 1) := by decide +kernel
theorem dX8_cellsOf_42 : decode cX8_cellsOf 42 = .ok (.ireturn, 1) := by decide +kernel
theorem dX8_lotCells_0 : decode cX8_lotCells 0 = .ok (.aload_n 0, 1) := by decide +kernel
theorem dX8_lotCells_1 : decode cX8_lotCells 1 = .ok (.bipush 32, 2) := by decide +kernel
theorem dX8_lotCells_3 : decode cX8_lotCells 3 = .ok (.bipush 16, 2) := by decide +kernel
theorem dX8_lotCells_5 : decode cX8_lotCells 5 = .ok (.iload_n 1, 1) := by decide +kernel
theorem dX8_lotCells_6 : decode cX8_lotCells 6 = .ok (.imul, 1) := by decide +kernel
theorem dX8_lotCells_7 : decode cX8_lotCells 7 = .ok (.iadd, 1) := by decide +kernel
theorem dX8_lotCells_8 : decode cX8_lotCells 8 = .ok (.invokevirtual 56, 3) := by decide +kernel
theorem dX8_lotCells_11 : decode cX8_lotCells 11 = .ok (.ireturn, 1) := by decide +kernel
theorem dX8_buildingCells_0 : decode cX8_buildingCells 0 = .ok (.aload_n 0, 1) := by decide +kernel
theorem dX8_buildingCells_1 : decode cX8_buildingCells 1 = .ok (.sipush 160, 3) := by decide +kernel
theorem dX8_buildingCells_4 : decode cX8_buildingCells 4 = .ok (.bipush 46, 2) := by decide +kernel
theorem dX8_buildingCells_6 : decode cX8_buildingCells 6 = .ok (.iload_n 1, 1) := by decide +kernel
theorem dX8_buildingCells_7 : decode cX8_buildingCells 7 = .ok (.imul, 1) := by decide +kernel
theorem dX8_buildingCells_8 : decode cX8_buildingCells 8 = .ok (.iadd, 1) := by decide +kernel
theorem dX8_buildingCells_9 : decode cX8_buildingCells 9 = .ok (.invokevirtual 56, 3) := by decide +kernel
theorem dX8_buildingCells_12 : decode cX8_buildingCells 12 = .ok (.ireturn, 1) := by decide +kernel
theorem dX8_floorArea_0 : decode cX8_floorArea 0 = .ok (.aload_n 0, 1) := by decide +kernel
theorem dX8_floorArea_1 : decode cX8_floorArea 1 = .ok (.iload_n 1, 1) := by decide +kernel
theorem dX8_floorArea_2 : decode cX8_floorArea 2 = .ok (.invokevirtual 60, 3) := by decide +kernel
theorem dX8_floorArea_5 : decode cX8_floorArea 5 = .ok (.aload_n 0, 1) := by decide +kernel
theorem dX8_floorArea_6 : decode cX8_floorArea 6 = .ok (.iload_n 1, 1) := by decide +kernel
theorem dX8_floorArea_7 : decode cX8_floorArea 7 = .ok (.bipush 17, 2) := by decide +kernel
theorem dX8_floorArea_9 : decode cX8_floorArea 9 = .ok (.invokevirtual 63, 3) := by decide +kernel
theorem dX8_floorArea_12 : decode cX8_floorArea 12 = .ok (.imul, 1) := by decide +kernel
theorem dX8_floorArea_13 : decode cX8_floorArea 13 = .ok (.ireturn, 1) := by decide +kernel
theorem dX8_lotAt_0 : decode cX8_lotAt 0 = .ok (.iconst 0, 1) := by decide +kernel
theorem dX8_lotAt_1 : decode cX8_lotAt 1 = .ok (.istore_n 3, 1) := by decide +kernel
theorem dX8_lotAt_2 : decode cX8_lotAt 2 = .ok (.iload_n 3, 1) := by decide +kernel
theorem dX8_lotAt_3 : decode cX8_lotAt 3 = .ok (.aload_n 0, 1) := by decide +kernel
theorem dX8_lotAt_4 : decode cX8_lotAt 4 = .ok (.getfield 13, 3) := by decide +kernel
theorem dX8_lotAt_7 : decode cX8_lotAt 7 = .ok (.iconst 1, 1) := by decide +kernel
theorem dX8_lotAt_8 : decode cX8_lotAt 8 = .ok (.iaload, 1) := by decide +kernel
theorem dX8_lotAt_9 : decode cX8_lotAt 9 = .ok (.if_icmp .ge 21, 3) := by decide +kernel
theorem dX8_lotAt_12 : decode cX8_lotAt 12 = .ok (.aload_n 0, 1) := by decide +kernel
theorem dX8_lotAt_13 : decode cX8_lotAt 13 = .ok (.iload_n 3, 1) := by decide +kernel
theorem dX8_lotAt_14 : decode cX8_lotAt 14 = .ok (.iload_n 1, 1) := by decide +kernel
theorem dX8_lotAt_15 : decode cX8_lotAt 15 = .ok (.iload_n 2, 1) := by decide +kernel
theorem dX8_lotAt_16 : decode cX8_lotAt 16 = .ok (.invokevirtual 67, 3) := by decide +kernel
theorem dX8_lotAt_19 : decode cX8_lotAt 19 = .ok (.ifCond .eq 5, 3) := by decide +kernel
theorem dX8_lotAt_22 : decode cX8_lotAt 22 = .ok (.iload_n 3, 1) := by decide +kernel
theorem dX8_lotAt_23 : decode cX8_lotAt 23 = .ok (.ireturn, 1) := by decide +kernel
theorem dX8_lotAt_24 : decode cX8_lotAt 24 = .ok (.iinc 3 1, 3) := by decide +kernel
theorem dX8_lotAt_27 : decode cX8_lotAt 27 = .ok (.goto (-25), 3) := by decide +kernel
theorem dX8_lotAt_30 : decode cX8_lotAt 30 = .ok (.iconst (-1), 1) := by decide +kernel
theorem dX8_lotAt_31 : decode cX8_lotAt 31 = .ok (.ireturn, 1) := by decide +kernel
theorem dX8_eastward_0 : decode cX8_eastward 0 = .ok (.iload_n 0, 1) := by decide +kernel
theorem dX8_eastward_1 : decode cX8_eastward 1 = .ok (.iconst 1, 1) := by decide +kernel
theorem dX8_eastward_2 : decode cX8_eastward 2 = .ok (.if_icmp .ne 7, 3) := by decide +kernel
theorem dX8_eastward_5 : decode cX8_eastward 5 = .ok (.iconst 1, 1) := by decide +kernel
theorem dX8_eastward_6 : decode cX8_eastward 6 = .ok (.goto 13, 3) := by decide +kernel
theorem dX8_eastward_9 : decode cX8_eastward 9 = .ok (.iload_n 0, 1) := by decide +kernel
theorem dX8_eastward_10 : decode cX8_eastward 10 = .ok (.iconst 3, 1) := by decide +kernel
theorem dX8_eastward_11 : decode cX8_eastward 11 = .ok (.if_icmp .ne 7, 3) := by decide +kernel
theorem dX8_eastward_14 : decode cX8_eastward 14 = .ok (.iconst (-1), 1) := by decide +kernel
theorem dX8_eastward_15 : decode cX8_eastward 15 = .ok (.goto 4, 3) := by decide +kernel
theorem dX8_eastward_18 : decode cX8_eastward 18 = .ok (.iconst 0, 1) := by decide +kernel
theorem dX8_eastward_19 : decode cX8_eastward 19 = .ok (.ireturn, 1) := by decide +kernel
theorem dX8_southward_0 : decode cX8_southward 0 = .ok (.iload_n 0, 1) := by decide +kernel
theorem dX8_southward_1 : decode cX8_southward 1 = .ok (.iconst 2, 1) := by decide +kernel
theorem dX8_southward_2 : decode cX8_southward 2 = .ok (.if_icmp .ne 7, 3) := by decide +kernel
theorem dX8_southward_5 : decode cX8_southward 5 = .ok (.iconst 1, 1) := by decide +kernel
theorem dX8_southward_6 : decode cX8_southward 6 = .ok (.goto 12, 3) := by decide +kernel
theorem dX8_southward_9 : decode cX8_southward 9 = .ok (.iload_n 0, 1) := by decide +kernel
theorem dX8_southward_10 : decode cX8_southward 10 = .ok (.ifCond .ne 7, 3) := by decide +kernel
theorem dX8_southward_13 : decode cX8_southward 13 = .ok (.iconst (-1), 1) := by decide +kernel
theorem dX8_southward_14 : decode cX8_southward 14 = .ok (.goto 4, 3) := by decide +kernel
theorem dX8_southward_17 : decode cX8_southward 17 = .ok (.iconst 0, 1) := by decide +kernel
theorem dX8_southward_18 : decode cX8_southward 18 = .ok (.ireturn, 1) := by decide +kernel
theorem dX8_distance_0 : decode cX8_distance 0 = .ok (.iconst 0, 1) := by decide +kernel
theorem dX8_distance_1 : decode cX8_distance 1 = .ok (.istore 5, 2) := by decide +kernel
theorem dX8_distance_3 : decode cX8_distance 3 = .ok (.iload_n 2, 1) := by decide +kernel
theorem dX8_distance_4 : decode cX8_distance 4 = .ok (.istore 6, 2) := by decide +kernel
theorem dX8_distance_6 : decode cX8_distance 6 = .ok (.iload_n 3, 1) := by decide +kernel
theorem dX8_distance_7 : decode cX8_distance 7 = .ok (.istore 7, 2) := by decide +kernel
theorem dX8_distance_9 : decode cX8_distance 9 = .ok (.aload_n 0, 1) := by decide +kernel
theorem dX8_distance_10 : decode cX8_distance 10 = .ok (.iload_n 1, 1) := by decide +kernel
theorem dX8_distance_11 : decode cX8_distance 11 = .ok (.iload 6, 2) := by decide +kernel
theorem dX8_distance_13 : decode cX8_distance 13 = .ok (.iload 7, 2) := by decide +kernel
theorem dX8_distance_15 : decode cX8_distance 15 = .ok (.invokevirtual 67, 3) := by decide +kernel
theorem dX8_distance_18 : decode cX8_distance 18 = .ok (.ifCond .eq 29, 3) := by decide +kernel
theorem dX8_distance_21 : decode cX8_distance 21 = .ok (.iload 6, 2) := by decide +kernel
theorem dX8_distance_23 : decode cX8_distance 23 = .ok (.iload 4, 2) := by decide +kernel
theorem dX8_distance_25 : decode cX8_distance 25 = .ok (.invokestatic 70, 3) := by decide +kernel
theorem dX8_distance_28 : decode cX8_distance 28 = .ok (.iadd, 1) := by decide +kernel
theorem dX8_distance_29 : decode cX8_distance 29 = .ok (.istore 6, 2) := by decide +kernel
theorem dX8_distance_31 : decode cX8_distance 31 = .ok (.iload 7, 2) := by decide +kernel
theorem dX8_distance_33 : decode cX8_distance 33 = .ok (.iload 4, 2) := by decide +kernel
theorem dX8_distance_35 : decode cX8_distance 35 = .ok (.invokestatic 73, 3) := by decide +kernel
theorem dX8_distance_38 : decode cX8_distance 38 = .ok (.iadd, 1) := by decide +kernel
theorem dX8_distance_39 : decode cX8_distance 39 = .ok (.istore 7, 2) := by decide +kernel
theorem dX8_distance_41 : decode cX8_distance 41 = .ok (.iinc 5 1, 3) := by decide +kernel
theorem dX8_distance_44 : decode cX8_distance 44 = .ok (.goto (-35), 3) := by decide +kernel
theorem dX8_distance_47 : decode cX8_distance 47 = .ok (.iconst 0, 1) := by decide +kernel
theorem dX8_distance_48 : decode cX8_distance 48 = .ok (.iload 5, 2) := by decide +kernel
theorem dX8_distance_50 : decode cX8_distance 50 = .ok (.iconst 1, 1) := by decide +kernel
theorem dX8_distance_51 : decode cX8_distance 51 = .ok (.isub, 1) := by decide +kernel
theorem dX8_distance_52 : decode cX8_distance 52 = .ok (.invokestatic 76, 3) := by decide +kernel
theorem dX8_distance_55 : decode cX8_distance 55 = .ok (.ireturn, 1) := by decide +kernel
theorem dX8_sideDistance_0 : decode cX8_sideDistance 0 = .ok (.bipush 100, 2) := by decide +kernel
theorem dX8_sideDistance_2 : decode cX8_sideDistance 2 = .ok (.istore 4, 2) := by decide +kernel
theorem dX8_sideDistance_4 : decode cX8_sideDistance 4 = .ok (.iconst 0, 1) := by decide +kernel
theorem dX8_sideDistance_5 : decode cX8_sideDistance 5 = .ok (.istore 5, 2) := by decide +kernel
theorem dX8_sideDistance_7 : decode cX8_sideDistance 7 = .ok (.iload 5, 2) := by decide +kernel
theorem dX8_sideDistance_9 : decode cX8_sideDistance 9 = .ok (.iconst 4, 1) := by decide +kernel
theorem dX8_sideDistance_10 : decode cX8_sideDistance 10 = .ok (.if_icmp .ge 41, 3) := by decide +kernel
theorem dX8_sideDistance_13 : decode cX8_sideDistance 13 = .ok (.iload 5, 2) := by decide +kernel
theorem dX8_sideDistance_15 : decode cX8_sideDistance 15 = .ok (.aload_n 0, 1) := by decide +kernel
theorem dX8_sideDistance_16 : decode cX8_sideDistance 16 = .ok (.iload_n 1, 1) := by decide +kernel
theorem dX8_sideDistance_17 : decode cX8_sideDistance 17 = .ok (.iconst 1, 1) := by decide +kernel
theorem dX8_sideDistance_18 : decode cX8_sideDistance 18 = .ok (.invokevirtual 81, 3) := by decide +kernel
theorem dX8_sideDistance_21 : decode cX8_sideDistance 21 = .ok (.if_icmp .ne 8, 3) := by decide +kernel
theorem dX8_sideDistance_24 : decode cX8_sideDistance 24 = .ok (.iload 4, 2) := by decide +kernel
theorem dX8_sideDistance_26 : decode cX8_sideDistance 26 = .ok (.goto 17, 3) := by decide +kernel
theorem dX8_sideDistance_29 : decode cX8_sideDistance 29 = .ok (.iload 4, 2) := by decide +kernel
theorem dX8_sideDistance_31 : decode cX8_sideDistance 31 = .ok (.aload_n 0, 1) := by decide +kernel
theorem dX8_sideDistance_32 : decode cX8_sideDistance 32 = .ok (.iload_n 1, 1) := by decide +kernel
theorem dX8_sideDistance_33 : decode cX8_sideDistance 33 = .ok (.iload_n 2, 1) := by decide +kernel
theorem dX8_sideDistance_34 : decode cX8_sideDistance 34 = .ok (.iload_n 3, 1) := by decide +kernel
theorem dX8_sideDistance_35 : decode cX8_sideDistance 35 = .ok (.iload 5, 2) := by decide +kernel
theorem dX8_sideDistance_37 : decode cX8_sideDistance 37 = .ok (.invokevirtual 84, 3) := by decide +kernel
theorem dX8_sideDistance_40 : decode cX8_sideDistance 40 = .ok (.invokestatic 88, 3) := by decide +kernel
theorem dX8_sideDistance_43 : decode cX8_sideDistance 43 = .ok (.istore 4, 2) := by decide +kernel
theorem dX8_sideDistance_45 : decode cX8_sideDistance 45 = .ok (.iinc 5 1, 3) := by decide +kernel
theorem dX8_sideDistance_48 : decode cX8_sideDistance 48 = .ok (.goto (-41), 3) := by decide +kernel
theorem dX8_sideDistance_51 : decode cX8_sideDistance 51 = .ok (.iload 4, 2) := by decide +kernel
theorem dX8_sideDistance_53 : decode cX8_sideDistance 53 = .ok (.ireturn, 1) := by decide +kernel
theorem dX8_frontDistance_0 : decode cX8_frontDistance 0 = .ok (.aload_n 0, 1) := by decide +kernel
theorem dX8_frontDistance_1 : decode cX8_frontDistance 1 = .ok (.iload_n 1, 1) := by decide +kernel
theorem dX8_frontDistance_2 : decode cX8_frontDistance 2 = .ok (.iload_n 2, 1) := by decide +kernel
theorem dX8_frontDistance_3 : decode cX8_frontDistance 3 = .ok (.iload_n 3, 1) := by decide +kernel
theorem dX8_frontDistance_4 : decode cX8_frontDistance 4 = .ok (.aload_n 0, 1) := by decide +kernel
theorem dX8_frontDistance_5 : decode cX8_frontDistance 5 = .ok (.iload_n 1, 1) := by decide +kernel
theorem dX8_frontDistance_6 : decode cX8_frontDistance 6 = .ok (.iconst 1, 1) := by decide +kernel
theorem dX8_frontDistance_7 : decode cX8_frontDistance 7 = .ok (.invokevirtual 81, 3) := by decide +kernel
theorem dX8_frontDistance_10 : decode cX8_frontDistance 10 = .ok (.invokevirtual 84, 3) := by decide +kernel
theorem dX8_frontDistance_13 : decode cX8_frontDistance 13 = .ok (.ireturn, 1) := by decide +kernel
theorem dX8_stands_0 : decode cX8_stands 0 = .ok (.aload_n 0, 1) := by decide +kernel
theorem dX8_stands_1 : decode cX8_stands 1 = .ok (.iload_n 1, 1) := by decide +kernel
theorem dX8_stands_2 : decode cX8_stands 2 = .ok (.bipush 19, 2) := by decide +kernel
theorem dX8_stands_4 : decode cX8_stands 4 = .ok (.invokevirtual 63, 3) := by decide +kernel
theorem dX8_stands_7 : decode cX8_stands 7 = .ok (.istore_n 2, 1) := by decide +kernel
theorem dX8_stands_8 : decode cX8_stands 8 = .ok (.iload_n 2, 1) := by decide +kernel
theorem dX8_stands_9 : decode cX8_stands 9 = .ok (.iconst 2, 1) := by decide +kernel
theorem dX8_stands_10 : decode cX8_stands 10 = .ok (.if_icmp .eq 14, 3) := by decide +kernel
theorem dX8_stands_13 : decode cX8_stands 13 = .ok (.iload_n 2, 1) := by decide +kernel
theorem dX8_stands_14 : decode cX8_stands 14 = .ok (.iconst 3, 1) := by decide +kernel
theorem dX8_stands_15 : decode cX8_stands 15 = .ok (.if_icmp .eq 9, 3) := by decide +kernel
theorem dX8_stands_18 : decode cX8_stands 18 = .ok (.iload_n 2, 1) := by decide +kernel
theorem dX8_stands_19 : decode cX8_stands 19 = .ok (.bipush 6, 2) := by decide +kernel
theorem dX8_stands_21 : decode cX8_stands 21 = .ok (.if_icmp .ne 7, 3) := by decide +kernel
theorem dX8_stands_24 : decode cX8_stands 24 = .ok (.iconst 1, 1) := by decide +kernel
theorem dX8_stands_25 : decode cX8_stands 25 = .ok (.goto 4, 3) := by decide +kernel
theorem dX8_stands_28 : decode cX8_stands 28 = .ok (.iconst 0, 1) := by decide +kernel
theorem dX8_stands_29 : decode cX8_stands 29 = .ok (.ireturn, 1) := by decide +kernel
theorem dX8_isBuilt_0 : decode cX8_isBuilt 0 = .ok (.iconst 0, 1) := by decide +kernel
theorem dX8_isBuilt_1 : decode cX8_isBuilt 1 = .ok (.istore 5, 2) := by decide +kernel
theorem dX8_isBuilt_3 : decode cX8_isBuilt 3 = .ok (.iconst 0, 1) := by decide +kernel
theorem dX8_isBuilt_4 : decode cX8_isBuilt 4 = .ok (.istore 6, 2) := by decide +kernel
theorem dX8_isBuilt_6 : decode cX8_isBuilt 6 = .ok (.iload 6, 2) := by decide +kernel
theorem dX8_isBuilt_8 : decode cX8_isBuilt 8 = .ok (.aload_n 0, 1) := by decide +kernel
theorem dX8_isBuilt_9 : decode cX8_isBuilt 9 = .ok (.getfield 13, 3) := by decide +kernel
theorem dX8_isBuilt_12 : decode cX8_isBuilt 12 = .ok (.iconst 2, 1) := by decide +kernel
theorem dX8_isBuilt_13 : decode cX8_isBuilt 13 = .ok (.iaload, 1) := by decide +kernel
theorem dX8_isBuilt_14 : decode cX8_isBuilt 14 = .ok (.if_icmp .ge 59, 3) := by decide +kernel
theorem dX8_isBuilt_17 : decode cX8_isBuilt 17 = .ok (.iload 5, 2) := by decide +kernel
theorem dX8_isBuilt_19 : decode cX8_isBuilt 19 = .ok (.ifCond .ne 41, 3) := by decide +kernel
theorem dX8_isBuilt_22 : decode cX8_isBuilt 22 = .ok (.iload 6, 2) := by decide +kernel
theorem dX8_isBuilt_24 : decode cX8_isBuilt 24 = .ok (.iload 4, 2) := by decide +kernel
theorem dX8_isBuilt_26 : decode cX8_isBuilt 26 = .ok (.if_icmp .eq 38, 3) := by decide +kernel
theorem dX8_isBuilt_29 : decode cX8_isBuilt 29 = .ok (.aload_n 0, 1) := by decide +kernel
theorem dX8_isBuilt_30 : decode cX8_isBuilt 30 = .ok (.iload 6, 2) := by decide +kernel
theorem dX8_isBuilt_32 : decode cX8_isBuilt 32 = .ok (.invokevirtual 91, 3) := by decide +kernel
theorem dX8_isBuilt_35 : decode cX8_isBuilt 35 = .ok (.ifCond .eq 29, 3) := by decide +kernel
theorem dX8_isBuilt_38 : decode cX8_isBuilt 38 = .ok (.aload_n 0, 1) := by decide +kernel
theorem dX8_isBuilt_39 : decode cX8_isBuilt 39 = .ok (.iload 6, 2) := by decide +kernel
theorem dX8_isBuilt_41 : decode cX8_isBuilt 41 = .ok (.iconst 0, 1) := by decide +kernel
theorem dX8_isBuilt_42 : decode cX8_isBuilt 42 = .ok (.invokevirtual 63, 3) := by decide +kernel
theorem dX8_isBuilt_45 : decode cX8_isBuilt 45 = .ok (.iload_n 1, 1) := by decide +kernel
theorem dX8_isBuilt_46 : decode cX8_isBuilt 46 = .ok (.if_icmp .ne 18, 3) := by decide +kernel
theorem dX8_isBuilt_49 : decode cX8_isBuilt 49 = .ok (.aload_n 0, 1) := by decide +kernel
theorem dX8_isBuilt_50 : decode cX8_isBuilt 50 = .ok (.iload 6, 2) := by decide +kernel
theorem dX8_isBuilt_52 : decode cX8_isBuilt 52 = .ok (.iload_n 2, 1) := by decide +kernel
theorem dX8_isBuilt_53 : decode cX8_isBuilt 53 = .ok (.iload_n 3, 1) := by decide +kernel
theorem dX8_isBuilt_54 : decode cX8_isBuilt 54 = .ok (.invokevirtual 95, 3) := by decide +kernel
theorem dX8_isBuilt_57 : decode cX8_isBuilt 57 = .ok (.ifCond .eq 7, 3) := by decide +kernel
theorem dX8_isBuilt_60 : decode cX8_isBuilt 60 = .ok (.iconst 1, 1) := by decide +kernel
theorem dX8_isBuilt_61 : decode cX8_isBuilt 61 = .ok (.goto 4, 3) := by decide +kernel
theorem dX8_isBuilt_64 : decode cX8_isBuilt 64 = .ok (.iconst 0, 1) := by decide +kernel
theorem dX8_isBuilt_65 : decode cX8_isBuilt 65 = .ok (.istore 5, 2) := by decide +kernel
theorem dX8_isBuilt_67 : decode cX8_isBuilt 67 = .ok (.iinc 6 1, 3) := by decide +kernel
theorem dX8_isBuilt_70 : decode cX8_isBuilt 70 = .ok (.goto (-64), 3) := by decide +kernel
theorem dX8_isBuilt_73 : decode cX8_isBuilt 73 = .ok (.iload 5, 2) := by decide +kernel
theorem dX8_isBuilt_75 : decode cX8_isBuilt 75 = .ok (.ireturn, 1) := by decide +kernel
theorem dX8_ruleOf_0 : decode cX8_ruleOf 0 = .ok (.aload_n 0, 1) := by decide +kernel
theorem dX8_ruleOf_1 : decode cX8_ruleOf 1 = .ok (.getfield 13, 3) := by decide +kernel
theorem dX8_ruleOf_4 : decode cX8_ruleOf 4 = .ok (.iconst 4, 1) := by decide +kernel
theorem dX8_ruleOf_5 : decode cX8_ruleOf 5 = .ok (.bipush 7, 2) := by decide +kernel
theorem dX8_ruleOf_7 : decode cX8_ruleOf 7 = .ok (.aload_n 0, 1) := by decide +kernel
theorem dX8_ruleOf_8 : decode cX8_ruleOf 8 = .ok (.aload_n 0, 1) := by decide +kernel
theorem dX8_ruleOf_9 : decode cX8_ruleOf 9 = .ok (.iload_n 1, 1) := by decide +kernel
theorem dX8_ruleOf_10 : decode cX8_ruleOf 10 = .ok (.iconst 0, 1) := by decide +kernel
theorem dX8_ruleOf_11 : decode cX8_ruleOf 11 = .ok (.invokevirtual 63, 3) := by decide +kernel
theorem dX8_ruleOf_14 : decode cX8_ruleOf 14 = .ok (.iconst 0, 1) := by decide +kernel
theorem dX8_ruleOf_15 : decode cX8_ruleOf 15 = .ok (.invokevirtual 81, 3) := by decide +kernel
theorem dX8_ruleOf_18 : decode cX8_ruleOf 18 = .ok (.imul, 1) := by decide +kernel
theorem dX8_ruleOf_19 : decode cX8_ruleOf 19 = .ok (.iadd, 1) := by decide +kernel
theorem dX8_ruleOf_20 : decode cX8_ruleOf 20 = .ok (.iload_n 2, 1) := by decide +kernel
theorem dX8_ruleOf_21 : decode cX8_ruleOf 21 = .ok (.iadd, 1) := by decide +kernel
theorem dX8_ruleOf_22 : decode cX8_ruleOf 22 = .ok (.iaload, 1) := by decide +kernel
theorem dX8_ruleOf_23 : decode cX8_ruleOf 23 = .ok (.ireturn, 1) := by decide +kernel
theorem dX8_up_0 : decode cX8_up 0 = .ok (.iload_n 0, 1) := by decide +kernel
theorem dX8_up_1 : decode cX8_up 1 = .ok (.iload_n 1, 1) := by decide +kernel
theorem dX8_up_2 : decode cX8_up 2 = .ok (.iadd, 1) := by decide +kernel
theorem dX8_up_3 : decode cX8_up 3 = .ok (.iconst 1, 1) := by decide +kernel
theorem dX8_up_4 : decode cX8_up 4 = .ok (.isub, 1) := by decide +kernel
theorem dX8_up_5 : decode cX8_up 5 = .ok (.iload_n 1, 1) := by decide +kernel
theorem dX8_up_6 : decode cX8_up 6 = .ok (.idiv, 1) := by decide +kernel
theorem dX8_up_7 : decode cX8_up 7 = .ok (.ireturn, 1) := by decide +kernel
theorem dX8_overCells_0 : decode cX8_overCells 0 = .ok (.aload_n 0, 1) := by decide +kernel
theorem dX8_overCells_1 : decode cX8_overCells 1 = .ok (.iload_n 1, 1) := by decide +kernel
theorem dX8_overCells_2 : decode cX8_overCells 2 = .ok (.iconst 0, 1) := by decide +kernel
theorem dX8_overCells_3 : decode cX8_overCells 3 = .ok (.invokevirtual 63, 3) := by decide +kernel
theorem dX8_overCells_6 : decode cX8_overCells 6 = .ok (.istore_n 3, 1) := by decide +kernel
theorem dX8_overCells_7 : decode cX8_overCells 7 = .ok (.iconst 0, 1) := by decide +kernel
theorem dX8_overCells_8 : decode cX8_overCells 8 = .ok (.istore 4, 2) := by decide +kernel
theorem dX8_overCells_10 : decode cX8_overCells 10 = .ok (.bipush 100, 2) := by decide +kernel
theorem dX8_overCells_12 : decode cX8_overCells 12 = .ok (.istore 5, 2) := by decide +kernel
theorem dX8_overCells_14 : decode cX8_overCells 14 = .ok (.iconst 0, 1) := by decide +kernel
theorem dX8_overCells_15 : decode cX8_overCells 15 = .ok (.istore 6, 2) := by decide +kernel
theorem dX8_overCells_17 : decode cX8_overCells 17 = .ok (.iload 6, 2) := by decide +kernel
theorem dX8_overCells_19 : decode cX8_overCells 19 = .ok (.sipush 280, 3) := by decide +kernel
theorem dX8_overCells_22 : decode cX8_overCells 22 = .ok (.if_icmp .ge 195, 3) := by decide +kernel
theorem dX8_overCells_25 : decode cX8_overCells 25 = .ok (.iload 6, 2) := by decide +kernel
theorem dX8_overCells_27 : decode cX8_overCells 27 = .ok (.bipush 20, 2) := by decide +kernel
theorem dX8_overCells_29 : decode cX8_overCells 29 = .ok (.irem, 1) := by decide +kernel
theorem dX8_overCells_30 : decode cX8_overCells 30 = .ok (.istore 7, 2) := by decide +kernel
theorem dX8_overCells_32 : decode cX8_overCells 32 = .ok (.iload 6, 2) := by decide +kernel
theorem dX8_overCells_34 : decode cX8_overCells 34 = .ok (.bipush 20, 2) := by decide +kernel
theorem dX8_overCells_36 : decode cX8_overCells 36 = .ok (.idiv, 1) := by decide +kernel
theorem dX8_overCells_37 : decode cX8_overCells 37 = .ok (.istore 8, 2) := by decide +kernel
theorem dX8_overCells_39 : decode cX8_overCells 39 = .ok (.aload_n 0, 1) := by decide +kernel
theorem dX8_overCells_40 : decode cX8_overCells 40 = .ok (.iload_n 1, 1) := by decide +kernel
theorem dX8_overCells_41 : decode cX8_overCells 41 = .ok (.iload 7, 2) := by decide +kernel
theorem dX8_overCells_43 : decode cX8_overCells 43 = .ok (.iload 8, 2) := by decide +kernel
theorem dX8_overCells_45 : decode cX8_overCells 45 = .ok (.invokevirtual 95, 3) := by decide +kernel
theorem dX8_overCells_48 : decode cX8_overCells 48 = .ok (.istore 9, 2) := by decide +kernel
theorem dX8_overCells_50 : decode cX8_overCells 50 = .ok (.iload 9, 2) := by decide +kernel
theorem dX8_overCells_52 : decode cX8_overCells 52 = .ok (.ifCond .eq 32, 3) := by decide +kernel
theorem dX8_overCells_55 : decode cX8_overCells 55 = .ok (.iload_n 2, 1) := by decide +kernel
theorem dX8_overCells_56 : decode cX8_overCells 56 = .ok (.ifCond .ne 28, 3) := by decide +kernel
theorem dX8_overCells_59 : decode cX8_overCells 59 = .ok (.iload 4, 2) := by decide +kernel
theorem dX8_overCells_61 : decode cX8_overCells 61 = .ok (.aload_n 0, 1) := by decide +kernel
theorem dX8_overCells_62 : decode cX8_overCells 62 = .ok (.iload_n 3, 1) := by decide +kernel
theorem dX8_overCells_63 : decode cX8_overCells 63 = .ok (.iload 7, 2) := by decide +kernel
theorem dX8_overCells_65 : decode cX8_overCells 65 = .ok (.iload 8, 2) := by decide +kernel
theorem dX8_overCells_67 : decode cX8_overCells 67 = .ok (.invokevirtual 67, 3) := by decide +kernel
theorem dX8_overCells_70 : decode cX8_overCells 70 = .ok (.ifCond .eq 7, 3) := by decide +kernel
theorem dX8_overCells_73 : decode cX8_overCells 73 = .ok (.iconst 0, 1) := by decide +kernel
theorem dX8_overCells_74 : decode cX8_overCells 74 = .ok (.goto 4, 3) := by decide +kernel
theorem dX8_overCells_77 : decode cX8_overCells 77 = .ok (.iconst 1, 1) := by decide +kernel
theorem dX8_overCells_78 : decode cX8_overCells 78 = .ok (.iadd, 1) := by decide +kernel
theorem dX8_overCells_79 : decode cX8_overCells 79 = .ok (.istore 4, 2) := by decide +kernel
theorem dX8_overCells_81 : decode cX8_overCells 81 = .ok (.goto 130, 3) := by decide +kernel
theorem dX8_overCells_84 : decode cX8_overCells 84 = .ok (.iload 9, 2) := by decide +kernel
theorem dX8_overCells_86 : decode cX8_overCells 86 = .ok (.ifCond .eq 34, 3) := by decide +kernel
theorem dX8_overCells_89 : decode cX8_overCells 89 = .ok (.iload_n 2, 1) := by decide +kernel
theorem dX8_overCells_90 : decode cX8_overCells 90 = .ok (.iconst 1, 1) := by decide +kernel
theorem dX8_overCells_91 : decode cX8_overCells 91 = .ok (.if_icmp .ne 29, 3) := by decide +kernel
theorem dX8_overCells_94 : decode cX8_overCells 94 = .ok (.iload 4, 2) := by decide +kernel
theorem dX8_overCells_96 : decode cX8_overCells 96 = .ok (.aload_n 0, 1) := by decide +kernel
theorem dX8_overCells_97 : decode cX8_overCells 97 = .ok (.iload_n 3, 1) := by decide +kernel
theorem dX8_overCells_98 : decode cX8_overCells 98 = .ok (.iload 7, 2) := by decide +kernel
theorem dX8_overCells_100 : decode cX8_overCells 100 = .ok (.iload 8, 2) := by decide +kernel
theorem dX8_overCells_102 : decode cX8_overCells 102 = .ok (.iload_n 1, 1) := by decide +kernel
theorem dX8_overCells_103 : decode cX8_overCells 103 = .ok (.invokevirtual 98, 3) := by decide +kernel
theorem dX8_overCells_106 : decode cX8_overCells 106 = .ok (.ifCond .eq 7, 3) := by decide +kernel
theorem dX8_overCells_109 : decode cX8_overCells 109 = .ok (.iconst 1, 1) := by decide +kernel
theorem dX8_overCells_110 : decode cX8_overCells 110 = .ok (.goto 4, 3) := by decide +kernel
theorem dX8_overCells_113 : decode cX8_overCells 113 = .ok (.iconst 0, 1) := by decide +kernel
theorem dX8_overCells_114 : decode cX8_overCells 114 = .ok (.iadd, 1) := by decide +kernel
theorem dX8_overCells_115 : decode cX8_overCells 115 = .ok (.istore 4, 2) := by decide +kernel
theorem dX8_overCells_117 : decode cX8_overCells 117 = .ok (.goto 94, 3) := by decide +kernel
theorem dX8_overCells_120 : decode cX8_overCells 120 = .ok (.iload 9, 2) := by decide +kernel
theorem dX8_overCells_122 : decode cX8_overCells 122 = .ok (.ifCond .eq 44, 3) := by decide +kernel
theorem dX8_overCells_125 : decode cX8_overCells 125 = .ok (.iload_n 2, 1) := by decide +kernel
theorem dX8_overCells_126 : decode cX8_overCells 126 = .ok (.iconst 4, 1) := by decide +kernel
theorem dX8_overCells_127 : decode cX8_overCells 127 = .ok (.if_icmp .ge 39, 3) := by decide +kernel
theorem dX8_overCells_130 : decode cX8_overCells 130 = .ok (.iload 5, 2) := by decide +kernel
theorem dX8_overCells_132 : decode cX8_overCells 132 = .ok (.iload_n 2, 1) := by decide +kernel
theorem dX8_overCells_133 : decode cX8_overCells 133 = .ok (.iconst 2, 1) := by decide +kernel
theorem dX8_overCells_134 : decode cX8_overCells 134 = .ok (.if_icmp .ne 15, 3) := by decide +kernel
theorem dX8_overCells_137 : decode cX8_overCells 137 = .ok (.aload_n 0, 1) := by decide +kernel
theorem dX8_overCells_138 : decode cX8_overCells 138 = .ok (.iload_n 3, 1) := by decide +kernel
theorem dX8_overCells_139 : decode cX8_overCells 139 = .ok (.iload 7, 2) := by decide +kernel
theorem dX8_overCells_141 : decode cX8_overCells 141 = .ok (.iload 8, 2) := by decide +kernel
theorem dX8_overCells_143 : decode cX8_overCells 143 = .ok (.invokevirtual 102, 3) := by decide +kernel
theorem dX8_overCells_146 : decode cX8_overCells 146 = .ok (.goto 12, 3) := by decide +kernel
theorem dX8_overCells_149 : decode cX8_overCells 149 = .ok (.aload_n 0, 1) := by decide +kernel
theorem dX8_overCells_150 : decode cX8_overCells 150 = .ok (.iload_n 3, 1) := by decide +kernel
theorem dX8_overCells_151 : decode cX8_overCells 151 = .ok (.iload 7, 2) := by decide +kernel
theorem dX8_overCells_153 : decode cX8_overCells 153 = .ok (.iload 8, 2) := by decide +kernel
theorem dX8_overCells_155 : decode cX8_overCells 155 = .ok (.invokevirtual 106, 3) := by decide +kernel
theorem dX8_overCells_158 : decode cX8_overCells 158 = .ok (.invokestatic 88, 3) := by decide +kernel
theorem dX8_overCells_161 : decode cX8_overCells 161 = .ok (.istore 5, 2) := by decide +kernel
theorem dX8_overCells_163 : decode cX8_overCells 163 = .ok (.goto 48, 3) := by decide +kernel
theorem dX8_overCells_166 : decode cX8_overCells 166 = .ok (.iload_n 2, 1) := by decide +kernel
theorem dX8_overCells_167 : decode cX8_overCells 167 = .ok (.iconst 4, 1) := by decide +kernel
theorem dX8_overCells_168 : decode cX8_overCells 168 = .ok (.if_icmp .ne 43, 3) := by decide +kernel
theorem dX8_overCells_171 : decode cX8_overCells 171 = .ok (.aload_n 0, 1) := by decide +kernel
theorem dX8_overCells_172 : decode cX8_overCells 172 = .ok (.iload_n 3, 1) := by decide +kernel
theorem dX8_overCells_173 : decode cX8_overCells 173 = .ok (.iload 7, 2) := by decide +kernel
theorem dX8_overCells_175 : decode cX8_overCells 175 = .ok (.iload 8, 2) := by decide +kernel
theorem dX8_overCells_177 : decode cX8_overCells 177 = .ok (.invokevirtual 67, 3) := by decide +kernel
theorem dX8_overCells_180 : decode cX8_overCells 180 = .ok (.ifCond .eq 31, 3) := by decide +kernel
theorem dX8_overCells_183 : decode cX8_overCells 183 = .ok (.iload 4, 2) := by decide +kernel
theorem dX8_overCells_185 : decode cX8_overCells 185 = .ok (.iload 9, 2) := by decide +kernel
theorem dX8_overCells_187 : decode cX8_overCells 187 = .ok (.ifCond .ne 16, 3) := by decide +kernel
theorem dX8_overCells_190 : decode cX8_overCells 190 = .ok (.aload_n 0, 1) := by decide +kernel
theorem dX8_overCells_191 : decode cX8_overCells 191 = .ok (.iload_n 3, 1) := by decide +kernel
theorem dX8_overCells_192 : decode cX8_overCells 192 = .ok (.iload 7, 2) := by decide +kernel
theorem dX8_overCells_194 : decode cX8_overCells 194 = .ok (.iload 8, 2) := by decide +kernel
theorem dX8_overCells_196 : decode cX8_overCells 196 = .ok (.iload_n 1, 1) := by decide +kernel
theorem dX8_overCells_197 : decode cX8_overCells 197 = .ok (.invokevirtual 98, 3) := by decide +kernel
theorem dX8_overCells_200 : decode cX8_overCells 200 = .ok (.ifCond .eq 7, 3) := by decide +kernel
theorem dX8_overCells_203 : decode cX8_overCells 203 = .ok (.iconst 1, 1) := by decide +kernel
theorem dX8_overCells_204 : decode cX8_overCells 204 = .ok (.goto 4, 3) := by decide +kernel
theorem dX8_overCells_207 : decode cX8_overCells 207 = .ok (.iconst 0, 1) := by decide +kernel
theorem dX8_overCells_208 : decode cX8_overCells 208 = .ok (.iadd, 1) := by decide +kernel
theorem dX8_overCells_209 : decode cX8_overCells 209 = .ok (.istore 4, 2) := by decide +kernel
theorem dX8_overCells_211 : decode cX8_overCells 211 = .ok (.iinc 6 1, 3) := by decide +kernel
theorem dX8_overCells_214 : decode cX8_overCells 214 = .ok (.goto (-197), 3) := by decide +kernel
theorem dX8_overCells_217 : decode cX8_overCells 217 = .ok (.iload_n 2, 1) := by decide +kernel
theorem dX8_overCells_218 : decode cX8_overCells 218 = .ok (.iconst 2, 1) := by decide +kernel
theorem dX8_overCells_219 : decode cX8_overCells 219 = .ok (.if_icmp .eq 8, 3) := by decide +kernel
theorem dX8_overCells_222 : decode cX8_overCells 222 = .ok (.iload_n 2, 1) := by decide +kernel
theorem dX8_overCells_223 : decode cX8_overCells 223 = .ok (.iconst 3, 1) := by decide +kernel
theorem dX8_overCells_224 : decode cX8_overCells 224 = .ok (.if_icmp .ne 8, 3) := by decide +kernel
theorem dX8_overCells_227 : decode cX8_overCells 227 = .ok (.iload 5, 2) := by decide +kernel
theorem dX8_overCells_229 : decode cX8_overCells 229 = .ok (.goto 5, 3) := by decide +kernel
theorem dX8_overCells_232 : decode cX8_overCells 232 = .ok (.iload 4, 2) := by decide +kernel
theorem dX8_overCells_234 : decode cX8_overCells 234 = .ok (.ireturn, 1) := by decide +kernel
theorem dX8_floorAreas_0 : decode cX8_floorAreas 0 = .ok (.iconst 0, 1) := by decide +kernel
theorem dX8_floorAreas_1 : decode cX8_floorAreas 1 = .ok (.istore_n 3, 1) := by decide +kernel
theorem dX8_floorAreas_2 : decode cX8_floorAreas 2 = .ok (.iconst 0, 1) := by decide +kernel
theorem dX8_floorAreas_3 : decode cX8_floorAreas 3 = .ok (.istore 4, 2) := by decide +kernel
theorem dX8_floorAreas_5 : decode cX8_floorAreas 5 = .ok (.iload 4, 2) := by decide +kernel
theorem dX8_floorAreas_7 : decode cX8_floorAreas 7 = .ok (.aload_n 0, 1) := by decide +kernel
theorem dX8_floorAreas_8 : decode cX8_floorAreas 8 = .ok (.getfield 13, 3) := by decide +kernel
theorem dX8_floorAreas_11 : decode cX8_floorAreas 11 = .ok (.iconst 2, 1) := by decide +kernel
theorem dX8_floorAreas_12 : decode cX8_floorAreas 12 = .ok (.iaload, 1) := by decide +kernel
theorem dX8_floorAreas_13 : decode cX8_floorAreas 13 = .ok (.if_icmp .ge 48, 3) := by decide +kernel
theorem dX8_floorAreas_16 : decode cX8_floorAreas 16 = .ok (.iload_n 3, 1) := by decide +kernel
theorem dX8_floorAreas_17 : decode cX8_floorAreas 17 = .ok (.iload 4, 2) := by decide +kernel
theorem dX8_floorAreas_19 : decode cX8_floorAreas 19 = .ok (.iload_n 2, 1) := by decide +kernel
theorem dX8_floorAreas_20 : decode cX8_floorAreas 20 = .ok (.if_icmp .eq 32, 3) := by decide +kernel
theorem dX8_floorAreas_23 : decode cX8_floorAreas 23 = .ok (.aload_n 0, 1) := by decide +kernel
theorem dX8_floorAreas_24 : decode cX8_floorAreas 24 = .ok (.iload 4, 2) := by decide +kernel
theorem dX8_floorAreas_26 : decode cX8_floorAreas 26 = .ok (.invokevirtual 91, 3) := by decide +kernel
theorem dX8_floorAreas_29 : decode cX8_floorAreas 29 = .ok (.ifCond .eq 23, 3) := by decide +kernel
theorem dX8_floorAreas_32 : decode cX8_floorAreas 32 = .ok (.aload_n 0, 1) := by decide +kernel
theorem dX8_floorAreas_33 : decode cX8_floorAreas 33 = .ok (.iload 4, 2) := by decide +kernel
theorem dX8_floorAreas_35 : decode cX8_floorAreas 35 = .ok (.iconst 0, 1) := by decide +kernel
theorem dX8_floorAreas_36 : decode cX8_floorAreas 36 = .ok (.invokevirtual 63, 3) := by decide +kernel
theorem dX8_floorAreas_39 : decode cX8_floorAreas 39 = .ok (.iload_n 1, 1) := by decide +kernel
theorem dX8_floorAreas_40 : decode cX8_floorAreas 40 = .ok (.if_icmp .ne 12, 3) := by decide +kernel
theorem dX8_floorAreas_43 : decode cX8_floorAreas 43 = .ok (.aload_n 0, 1) := by decide +kernel
theorem dX8_floorAreas_44 : decode cX8_floorAreas 44 = .ok (.iload 4, 2) := by decide +kernel
theorem dX8_floorAreas_46 : decode cX8_floorAreas 46 = .ok (.invokevirtual 109, 3) := by decide +kernel
theorem dX8_floorAreas_49 : decode cX8_floorAreas 49 = .ok (.goto 4, 3) := by decide +kernel
theorem dX8_floorAreas_52 : decode cX8_floorAreas 52 = .ok (.iconst 0, 1) := by decide +kernel
theorem dX8_floorAreas_53 : decode cX8_floorAreas 53 = .ok (.iadd, 1) := by decide +kernel
theorem dX8_floorAreas_54 : decode cX8_floorAreas 54 = .ok (.istore_n 3, 1) := by decide +kernel
theorem dX8_floorAreas_55 : decode cX8_floorAreas 55 = .ok (.iinc 4 1, 3) := by decide +kernel
theorem dX8_floorAreas_58 : decode cX8_floorAreas 58 = .ok (.goto (-53), 3) := by decide +kernel
theorem dX8_floorAreas_61 : decode cX8_floorAreas 61 = .ok (.iload_n 3, 1) := by decide +kernel
theorem dX8_floorAreas_62 : decode cX8_floorAreas 62 = .ok (.ireturn, 1) := by decide +kernel
theorem dX8_measure_0 : decode cX8_measure 0 = .ok (.aload_n 0, 1) := by decide +kernel
theorem dX8_measure_1 : decode cX8_measure 1 = .ok (.iload_n 1, 1) := by decide +kernel
theorem dX8_measure_2 : decode cX8_measure 2 = .ok (.iconst 0, 1) := by decide +kernel
theorem dX8_measure_3 : decode cX8_measure 3 = .ok (.invokevirtual 63, 3) := by decide +kernel
theorem dX8_measure_6 : decode cX8_measure 6 = .ok (.istore_n 3, 1) := by decide +kernel
theorem dX8_measure_7 : decode cX8_measure 7 = .ok (.iload_n 2, 1) := by decide +kernel
theorem dX8_measure_8 : decode cX8_measure 8 = .ok (.tableswitch 101 4 8 #[36, 54, 62, 86, 93], 36) := by decide +kernel
theorem dX8_measure_44 : decode cX8_measure 44 = .ok (.bipush 100, 2) := by decide +kernel
theorem dX8_measure_46 : decode cX8_measure 46 = .ok (.aload_n 0, 1) := by decide +kernel
theorem dX8_measure_47 : decode cX8_measure 47 = .ok (.iload_n 1, 1) := by decide +kernel
theorem dX8_measure_48 : decode cX8_measure 48 = .ok (.iconst 4, 1) := by decide +kernel
theorem dX8_measure_49 : decode cX8_measure 49 = .ok (.invokevirtual 112, 3) := by decide +kernel
theorem dX8_measure_52 : decode cX8_measure 52 = .ok (.imul, 1) := by decide +kernel
theorem dX8_measure_53 : decode cX8_measure 53 = .ok (.aload_n 0, 1) := by decide +kernel
theorem dX8_measure_54 : decode cX8_measure 54 = .ok (.iload_n 3, 1) := by decide +kernel
theorem dX8_measure_55 : decode cX8_measure 55 = .ok (.invokevirtual 115, 3) := by decide +kernel
theorem dX8_measure_58 : decode cX8_measure 58 = .ok (.invokestatic 118, 3) := by decide +kernel
theorem dX8_measure_61 : decode cX8_measure 61 = .ok (.ireturn, 1) := by decide +kernel
theorem dX8_measure_62 : decode cX8_measure 62 = .ok (.aload_n 0, 1) := by decide +kernel
theorem dX8_measure_63 : decode cX8_measure 63 = .ok (.iload_n 1, 1) := by decide +kernel
theorem dX8_measure_64 : decode cX8_measure 64 = .ok (.bipush 17, 2) := by decide +kernel
theorem dX8_measure_66 : decode cX8_measure 66 = .ok (.invokevirtual 63, 3) := by decide +kernel
theorem dX8_measure_69 : decode cX8_measure 69 = .ok (.ireturn, 1) := by decide +kernel
theorem dX8_measure_70 : decode cX8_measure 70 = .ok (.bipush 10, 2) := by decide +kernel
theorem dX8_measure_72 : decode cX8_measure 72 = .ok (.aload_n 0, 1) := by decide +kernel
theorem dX8_measure_73 : decode cX8_measure 73 = .ok (.iload_n 1, 1) := by decide +kernel
theorem dX8_measure_74 : decode cX8_measure 74 = .ok (.invokevirtual 109, 3) := by decide +kernel
theorem dX8_measure_77 : decode cX8_measure 77 = .ok (.aload_n 0, 1) := by decide +kernel
theorem dX8_measure_78 : decode cX8_measure 78 = .ok (.iload_n 3, 1) := by decide +kernel
theorem dX8_measure_79 : decode cX8_measure 79 = .ok (.iload_n 1, 1) := by decide +kernel
theorem dX8_measure_80 : decode cX8_measure 80 = .ok (.invokevirtual 121, 3) := by decide +kernel
theorem dX8_measure_83 : decode cX8_measure 83 = .ok (.iadd, 1) := by decide +kernel
theorem dX8_measure_84 : decode cX8_measure 84 = .ok (.imul, 1) := by decide +kernel
theorem dX8_measure_85 : decode cX8_measure 85 = .ok (.aload_n 0, 1) := by decide +kernel
theorem dX8_measure_86 : decode cX8_measure 86 = .ok (.iload_n 3, 1) := by decide +kernel
theorem dX8_measure_87 : decode cX8_measure 87 = .ok (.invokevirtual 115, 3) := by decide +kernel
theorem dX8_measure_90 : decode cX8_measure 90 = .ok (.invokestatic 118, 3) := by decide +kernel
theorem dX8_measure_93 : decode cX8_measure 93 = .ok (.ireturn, 1) := by decide +kernel
theorem dX8_measure_94 : decode cX8_measure 94 = .ok (.aload_n 0, 1) := by decide +kernel
theorem dX8_measure_95 : decode cX8_measure 95 = .ok (.iload_n 1, 1) := by decide +kernel
theorem dX8_measure_96 : decode cX8_measure 96 = .ok (.iconst 1, 1) := by decide +kernel
theorem dX8_measure_97 : decode cX8_measure 97 = .ok (.invokevirtual 63, 3) := by decide +kernel
theorem dX8_measure_100 : decode cX8_measure 100 = .ok (.ireturn, 1) := by decide +kernel
theorem dX8_measure_101 : decode cX8_measure 101 = .ok (.aload_n 0, 1) := by decide +kernel
theorem dX8_measure_102 : decode cX8_measure 102 = .ok (.iload_n 1, 1) := by decide +kernel
theorem dX8_measure_103 : decode cX8_measure 103 = .ok (.bipush 18, 2) := by decide +kernel
theorem dX8_measure_105 : decode cX8_measure 105 = .ok (.invokevirtual 63, 3) := by decide +kernel
theorem dX8_measure_108 : decode cX8_measure 108 = .ok (.ireturn, 1) := by decide +kernel
theorem dX8_measure_109 : decode cX8_measure 109 = .ok (.aload_n 0, 1) := by decide +kernel
theorem dX8_measure_110 : decode cX8_measure 110 = .ok (.iload_n 1, 1) := by decide +kernel
theorem dX8_measure_111 : decode cX8_measure 111 = .ok (.iload_n 2, 1) := by decide +kernel
theorem dX8_measure_112 : decode cX8_measure 112 = .ok (.invokevirtual 112, 3) := by decide +kernel
theorem dX8_measure_115 : decode cX8_measure 115 = .ok (.ireturn, 1) := by decide +kernel
theorem dX8_limit_0 : decode cX8_limit 0 = .ok (.iload_n 2, 1) := by decide +kernel
theorem dX8_limit_1 : decode cX8_limit 1 = .ok (.iconst 2, 1) := by decide +kernel
theorem dX8_limit_2 : decode cX8_limit 2 = .ok (.if_icmp .ge 7, 3) := by decide +kernel
theorem dX8_limit_5 : decode cX8_limit 5 = .ok (.iconst 0, 1) := by decide +kernel
theorem dX8_limit_6 : decode cX8_limit 6 = .ok (.goto 38, 3) := by decide +kernel
theorem dX8_limit_9 : decode cX8_limit 9 = .ok (.iload_n 2, 1) := by decide +kernel
theorem dX8_limit_10 : decode cX8_limit 10 = .ok (.bipush 8, 2) := by decide +kernel
theorem dX8_limit_12 : decode cX8_limit 12 = .ok (.if_icmp .ne 24, 3) := by decide +kernel
theorem dX8_limit_15 : decode cX8_limit 15 = .ok (.aload_n 0, 1) := by decide +kernel
theorem dX8_limit_16 : decode cX8_limit 16 = .ok (.iload_n 1, 1) := by decide +kernel
theorem dX8_limit_17 : decode cX8_limit 17 = .ok (.bipush 6, 2) := by decide +kernel
theorem dX8_limit_19 : decode cX8_limit 19 = .ok (.invokevirtual 124, 3) := by decide +kernel
theorem dX8_limit_22 : decode cX8_limit 22 = .ok (.aload_n 0, 1) := by decide +kernel
theorem dX8_limit_23 : decode cX8_limit 23 = .ok (.iload_n 1, 1) := by decide +kernel
theorem dX8_limit_24 : decode cX8_limit 24 = .ok (.invokevirtual 109, 3) := by decide +kernel
theorem dX8_limit_27 : decode cX8_limit 27 = .ok (.imul, 1) := by decide +kernel
theorem dX8_limit_28 : decode cX8_limit 28 = .ok (.bipush 10, 2) := by decide +kernel
theorem dX8_limit_30 : decode cX8_limit 30 = .ok (.invokestatic 118, 3) := by decide +kernel
theorem dX8_limit_33 : decode cX8_limit 33 = .ok (.goto 11, 3) := by decide +kernel
theorem dX8_limit_36 : decode cX8_limit 36 = .ok (.aload_n 0, 1) := by decide +kernel
theorem dX8_limit_37 : decode cX8_limit 37 = .ok (.iload_n 1, 1) := by decide +kernel
theorem dX8_limit_38 : decode cX8_limit 38 = .ok (.iload_n 2, 1) := by decide +kernel
theorem dX8_limit_39 : decode cX8_limit 39 = .ok (.iconst 2, 1) := by decide +kernel
theorem dX8_limit_40 : decode cX8_limit 40 = .ok (.isub, 1) := by decide +kernel
theorem dX8_limit_41 : decode cX8_limit 41 = .ok (.invokevirtual 124, 3) := by decide +kernel
theorem dX8_limit_44 : decode cX8_limit 44 = .ok (.ireturn, 1) := by decide +kernel
theorem dX8_isWrong_0 : decode cX8_isWrong 0 = .ok (.iload_n 0, 1) := by decide +kernel
theorem dX8_isWrong_1 : decode cX8_isWrong 1 = .ok (.bipush 7, 2) := by decide +kernel
theorem dX8_isWrong_3 : decode cX8_isWrong 3 = .ok (.if_icmp .ne 19, 3) := by decide +kernel
theorem dX8_isWrong_6 : decode cX8_isWrong 6 = .ok (.iload_n 2, 1) := by decide +kernel
theorem dX8_isWrong_7 : decode cX8_isWrong 7 = .ok (.iload_n 1, 1) := by decide +kernel
theorem dX8_isWrong_8 : decode cX8_isWrong 8 = .ok (.ishr, 1) := by decide +kernel
theorem dX8_isWrong_9 : decode cX8_isWrong 9 = .ok (.iconst 1, 1) := by decide +kernel
theorem dX8_isWrong_10 : decode cX8_isWrong 10 = .ok (.iand, 1) := by decide +kernel
theorem dX8_isWrong_11 : decode cX8_isWrong 11 = .ok (.ifCond .ne 7, 3) := by decide +kernel
theorem dX8_isWrong_14 : decode cX8_isWrong 14 = .ok (.iconst 1, 1) := by decide +kernel
theorem dX8_isWrong_15 : decode cX8_isWrong 15 = .ok (.goto 46, 3) := by decide +kernel
theorem dX8_isWrong_18 : decode cX8_isWrong 18 = .ok (.iconst 0, 1) := by decide +kernel
theorem dX8_isWrong_19 : decode cX8_isWrong 19 = .ok (.goto 42, 3) := by decide +kernel
theorem dX8_isWrong_22 : decode cX8_isWrong 22 = .ok (.iload_n 0, 1) := by decide +kernel
theorem dX8_isWrong_23 : decode cX8_isWrong 23 = .ok (.iconst 2, 1) := by decide +kernel
theorem dX8_isWrong_24 : decode cX8_isWrong 24 = .ok (.if_icmp .eq 14, 3) := by decide +kernel
theorem dX8_isWrong_27 : decode cX8_isWrong 27 = .ok (.iload_n 0, 1) := by decide +kernel
theorem dX8_isWrong_28 : decode cX8_isWrong 28 = .ok (.iconst 3, 1) := by decide +kernel
theorem dX8_isWrong_29 : decode cX8_isWrong 29 = .ok (.if_icmp .eq 9, 3) := by decide +kernel
theorem dX8_isWrong_32 : decode cX8_isWrong 32 = .ok (.iload_n 0, 1) := by decide +kernel
theorem dX8_isWrong_33 : decode cX8_isWrong 33 = .ok (.bipush 8, 2) := by decide +kernel
theorem dX8_isWrong_35 : decode cX8_isWrong 35 = .ok (.if_icmp .ne 16, 3) := by decide +kernel
theorem dX8_isWrong_38 : decode cX8_isWrong 38 = .ok (.iload_n 1, 1) := by decide +kernel
theorem dX8_isWrong_39 : decode cX8_isWrong 39 = .ok (.iload_n 2, 1) := by decide +kernel
theorem dX8_isWrong_40 : decode cX8_isWrong 40 = .ok (.if_icmp .ge 7, 3) := by decide +kernel
theorem dX8_isWrong_43 : decode cX8_isWrong 43 = .ok (.iconst 1, 1) := by decide +kernel
theorem dX8_isWrong_44 : decode cX8_isWrong 44 = .ok (.goto 17, 3) := by decide +kernel
theorem dX8_isWrong_47 : decode cX8_isWrong 47 = .ok (.iconst 0, 1) := by decide +kernel
theorem dX8_isWrong_48 : decode cX8_isWrong 48 = .ok (.goto 13, 3) := by decide +kernel
theorem dX8_isWrong_51 : decode cX8_isWrong 51 = .ok (.iload_n 1, 1) := by decide +kernel
theorem dX8_isWrong_52 : decode cX8_isWrong 52 = .ok (.iload_n 2, 1) := by decide +kernel
theorem dX8_isWrong_53 : decode cX8_isWrong 53 = .ok (.if_icmp .le 7, 3) := by decide +kernel
theorem dX8_isWrong_56 : decode cX8_isWrong 56 = .ok (.iconst 1, 1) := by decide +kernel
theorem dX8_isWrong_57 : decode cX8_isWrong 57 = .ok (.goto 4, 3) := by decide +kernel
theorem dX8_isWrong_60 : decode cX8_isWrong 60 = .ok (.iconst 0, 1) := by decide +kernel
theorem dX8_isWrong_61 : decode cX8_isWrong 61 = .ok (.ireturn, 1) := by decide +kernel
theorem dX8_helps_0 : decode cX8_helps 0 = .ok (.iload_n 0, 1) := by decide +kernel
theorem dX8_helps_1 : decode cX8_helps 1 = .ok (.iconst 2, 1) := by decide +kernel
theorem dX8_helps_2 : decode cX8_helps 2 = .ok (.if_icmp .eq 14, 3) := by decide +kernel
theorem dX8_helps_5 : decode cX8_helps 5 = .ok (.iload_n 0, 1) := by decide +kernel
theorem dX8_helps_6 : decode cX8_helps 6 = .ok (.iconst 3, 1) := by decide +kernel
theorem dX8_helps_7 : decode cX8_helps 7 = .ok (.if_icmp .eq 9, 3) := by decide +kernel
theorem dX8_helps_10 : decode cX8_helps 10 = .ok (.iload_n 0, 1) := by decide +kernel
theorem dX8_helps_11 : decode cX8_helps 11 = .ok (.bipush 8, 2) := by decide +kernel
theorem dX8_helps_13 : decode cX8_helps 13 = .ok (.if_icmp .ne 7, 3) := by decide +kernel
theorem dX8_helps_16 : decode cX8_helps 16 = .ok (.iconst 1, 1) := by decide +kernel
theorem dX8_helps_17 : decode cX8_helps 17 = .ok (.goto 4, 3) := by decide +kernel
theorem dX8_helps_20 : decode cX8_helps 20 = .ok (.iconst 0, 1) := by decide +kernel
theorem dX8_helps_21 : decode cX8_helps 21 = .ok (.istore 4, 2) := by decide +kernel
theorem dX8_helps_23 : decode cX8_helps 23 = .ok (.iload_n 0, 1) := by decide +kernel
theorem dX8_helps_24 : decode cX8_helps 24 = .ok (.bipush 7, 2) := by decide +kernel
theorem dX8_helps_26 : decode cX8_helps 26 = .ok (.if_icmp .eq 34, 3) := by decide +kernel
theorem dX8_helps_29 : decode cX8_helps 29 = .ok (.iload_n 0, 1) := by decide +kernel
theorem dX8_helps_30 : decode cX8_helps 30 = .ok (.iconst 1, 1) := by decide +kernel
theorem dX8_helps_31 : decode cX8_helps 31 = .ok (.if_icmp .le 33, 3) := by decide +kernel
theorem dX8_helps_34 : decode cX8_helps 34 = .ok (.iload_n 0, 1) := by decide +kernel
theorem dX8_helps_35 : decode cX8_helps 35 = .ok (.iload_n 1, 1) := by decide +kernel
theorem dX8_helps_36 : decode cX8_helps 36 = .ok (.iload 4, 2) := by decide +kernel
theorem dX8_helps_38 : decode cX8_helps 38 = .ok (.ifCond .eq 13, 3) := by decide +kernel
theorem dX8_helps_41 : decode cX8_helps 41 = .ok (.iconst 0, 1) := by decide +kernel
theorem dX8_helps_42 : decode cX8_helps 42 = .ok (.iload_n 2, 1) := by decide +kernel
theorem dX8_helps_43 : decode cX8_helps 43 = .ok (.iload_n 3, 1) := by decide +kernel
theorem dX8_helps_44 : decode cX8_helps 44 = .ok (.isub, 1) := by decide +kernel
theorem dX8_helps_45 : decode cX8_helps 45 = .ok (.invokestatic 76, 3) := by decide +kernel
theorem dX8_helps_48 : decode cX8_helps 48 = .ok (.goto 6, 3) := by decide +kernel
theorem dX8_helps_51 : decode cX8_helps 51 = .ok (.iload_n 2, 1) := by decide +kernel
theorem dX8_helps_52 : decode cX8_helps 52 = .ok (.iload_n 3, 1) := by decide +kernel
theorem dX8_helps_53 : decode cX8_helps 53 = .ok (.iadd, 1) := by decide +kernel
theorem dX8_helps_54 : decode cX8_helps 54 = .ok (.invokestatic 127, 3) := by decide +kernel
theorem dX8_helps_57 : decode cX8_helps 57 = .ok (.ifCond .ne 7, 3) := by decide +kernel
theorem dX8_helps_60 : decode cX8_helps 60 = .ok (.iconst 1, 1) := by decide +kernel
theorem dX8_helps_61 : decode cX8_helps 61 = .ok (.goto 4, 3) := by decide +kernel
theorem dX8_helps_64 : decode cX8_helps 64 = .ok (.iconst 0, 1) := by decide +kernel
theorem dX8_helps_65 : decode cX8_helps 65 = .ok (.ireturn, 1) := by decide +kernel
theorem dX8_variancePart_0 : decode cX8_variancePart 0 = .ok (.aload_n 0, 1) := by decide +kernel
theorem dX8_variancePart_1 : decode cX8_variancePart 1 = .ok (.getfield 13, 3) := by decide +kernel
theorem dX8_variancePart_4 : decode cX8_variancePart 4 = .ok (.sipush 620, 3) := by decide +kernel
theorem dX8_variancePart_7 : decode cX8_variancePart 7 = .ok (.iconst 4, 1) := by decide +kernel
theorem dX8_variancePart_8 : decode cX8_variancePart 8 = .ok (.iload_n 1, 1) := by decide +kernel
theorem dX8_variancePart_9 : decode cX8_variancePart 9 = .ok (.imul, 1) := by decide +kernel
theorem dX8_variancePart_10 : decode cX8_variancePart 10 = .ok (.iadd, 1) := by decide +kernel
theorem dX8_variancePart_11 : decode cX8_variancePart 11 = .ok (.iload_n 2, 1) := by decide +kernel
theorem dX8_variancePart_12 : decode cX8_variancePart 12 = .ok (.iadd, 1) := by decide +kernel
theorem dX8_variancePart_13 : decode cX8_variancePart 13 = .ok (.iaload, 1) := by decide +kernel
theorem dX8_variancePart_14 : decode cX8_variancePart 14 = .ok (.ireturn, 1) := by decide +kernel
theorem dX8_isInForce_0 : decode cX8_isInForce 0 = .ok (.aload_n 0, 1) := by decide +kernel
theorem dX8_isInForce_1 : decode cX8_isInForce 1 = .ok (.getfield 13, 3) := by decide +kernel
theorem dX8_isInForce_4 : decode cX8_isInForce 4 = .ok (.iconst 0, 1) := by decide +kernel
theorem dX8_isInForce_5 : decode cX8_isInForce 5 = .ok (.iaload, 1) := by decide +kernel
theorem dX8_isInForce_6 : decode cX8_isInForce 6 = .ok (.aload_n 0, 1) := by decide +kernel
theorem dX8_isInForce_7 : decode cX8_isInForce 7 = .ok (.iload_n 1, 1) := by decide +kernel
theorem dX8_isInForce_8 : decode cX8_isInForce 8 = .ok (.iconst 3, 1) := by decide +kernel
theorem dX8_isInForce_9 : decode cX8_isInForce 9 = .ok (.invokevirtual 130, 3) := by decide +kernel
theorem dX8_isInForce_12 : decode cX8_isInForce 12 = .ok (.if_icmp .gt 7, 3) := by decide +kernel
theorem dX8_isInForce_15 : decode cX8_isInForce 15 = .ok (.iconst 1, 1) := by decide +kernel
theorem dX8_isInForce_16 : decode cX8_isInForce 16 = .ok (.goto 4, 3) := by decide +kernel
theorem dX8_isInForce_19 : decode cX8_isInForce 19 = .ok (.iconst 0, 1) := by decide +kernel
theorem dX8_isInForce_20 : decode cX8_isInForce 20 = .ok (.ireturn, 1) := by decide +kernel
theorem dX8_used_0 : decode cX8_used 0 = .ok (.iconst (-1), 1) := by decide +kernel
theorem dX8_used_1 : decode cX8_used 1 = .ok (.istore 5, 2) := by decide +kernel
theorem dX8_used_3 : decode cX8_used 3 = .ok (.iconst 0, 1) := by decide +kernel
theorem dX8_used_4 : decode cX8_used 4 = .ok (.istore 6, 2) := by decide +kernel
theorem dX8_used_6 : decode cX8_used 6 = .ok (.iload 6, 2) := by decide +kernel
theorem dX8_used_8 : decode cX8_used 8 = .ok (.aload_n 0, 1) := by decide +kernel
theorem dX8_used_9 : decode cX8_used 9 = .ok (.getfield 13, 3) := by decide +kernel
theorem dX8_used_12 : decode cX8_used 12 = .ok (.iconst 3, 1) := by decide +kernel
theorem dX8_used_13 : decode cX8_used 13 = .ok (.iaload, 1) := by decide +kernel
theorem dX8_used_14 : decode cX8_used 14 = .ok (.if_icmp .ge 106, 3) := by decide +kernel
theorem dX8_used_17 : decode cX8_used 17 = .ok (.aload_n 0, 1) := by decide +kernel
theorem dX8_used_18 : decode cX8_used 18 = .ok (.iload 6, 2) := by decide +kernel
theorem dX8_used_20 : decode cX8_used 20 = .ok (.invokevirtual 133, 3) := by decide +kernel
theorem dX8_used_23 : decode cX8_used 23 = .ok (.ifCond .eq 51, 3) := by decide +kernel
theorem dX8_used_26 : decode cX8_used 26 = .ok (.aload_n 0, 1) := by decide +kernel
theorem dX8_used_27 : decode cX8_used 27 = .ok (.iload 6, 2) := by decide +kernel
theorem dX8_used_29 : decode cX8_used 29 = .ok (.iconst 0, 1) := by decide +kernel
theorem dX8_used_30 : decode cX8_used 30 = .ok (.invokevirtual 130, 3) := by decide +kernel
theorem dX8_used_33 : decode cX8_used 33 = .ok (.aload_n 0, 1) := by decide +kernel
theorem dX8_used_34 : decode cX8_used 34 = .ok (.iload_n 1, 1) := by decide +kernel
theorem dX8_used_35 : decode cX8_used 35 = .ok (.iconst 0, 1) := by decide +kernel
theorem dX8_used_36 : decode cX8_used 36 = .ok (.invokevirtual 63, 3) := by decide +kernel
theorem dX8_used_39 : decode cX8_used 39 = .ok (.if_icmp .ne 35, 3) := by decide +kernel
theorem dX8_used_42 : decode cX8_used 42 = .ok (.aload_n 0, 1) := by decide +kernel
theorem dX8_used_43 : decode cX8_used 43 = .ok (.iload 6, 2) := by decide +kernel
theorem dX8_used_45 : decode cX8_used 45 = .ok (.iconst 1, 1) := by decide +kernel
theorem dX8_used_46 : decode cX8_used 46 = .ok (.invokevirtual 130, 3) := by decide +kernel
theorem dX8_used_49 : decode cX8_used 49 = .ok (.iload_n 2, 1) := by decide +kernel
theorem dX8_used_50 : decode cX8_used 50 = .ok (.if_icmp .ne 24, 3) := by decide +kernel
theorem dX8_used_53 : decode cX8_used 53 = .ok (.iload_n 2, 1) := by decide +kernel
theorem dX8_used_54 : decode cX8_used 54 = .ok (.iload_n 3, 1) := by decide +kernel
theorem dX8_used_55 : decode cX8_used 55 = .ok (.iload 4, 2) := by decide +kernel
theorem dX8_used_57 : decode cX8_used 57 = .ok (.aload_n 0, 1) := by decide +kernel
theorem dX8_used_58 : decode cX8_used 58 = .ok (.iload 6, 2) := by decide +kernel
theorem dX8_used_60 : decode cX8_used 60 = .ok (.iconst 2, 1) := by decide +kernel
theorem dX8_used_61 : decode cX8_used 61 = .ok (.invokevirtual 130, 3) := by decide +kernel
theorem dX8_used_64 : decode cX8_used 64 = .ok (.invokestatic 136, 3) := by decide +kernel
theorem dX8_used_67 : decode cX8_used 67 = .ok (.ifCond .eq 7, 3) := by decide +kernel
theorem dX8_used_70 : decode cX8_used 70 = .ok (.iconst 1, 1) := by decide +kernel
theorem dX8_used_71 : decode cX8_used 71 = .ok (.goto 4, 3) := by decide +kernel
theorem dX8_used_74 : decode cX8_used 74 = .ok (.iconst 0, 1) := by decide +kernel
theorem dX8_used_75 : decode cX8_used 75 = .ok (.istore 7, 2) := by decide +kernel
theorem dX8_used_77 : decode cX8_used 77 = .ok (.iload 7, 2) := by decide +kernel
theorem dX8_used_79 : decode cX8_used 79 = .ok (.ifCond .eq 31, 3) := by decide +kernel
theorem dX8_used_82 : decode cX8_used 82 = .ok (.iload 5, 2) := by decide +kernel
theorem dX8_used_84 : decode cX8_used 84 = .ok (.iconst (-1), 1) := by decide +kernel
theorem dX8_used_85 : decode cX8_used 85 = .ok (.if_icmp .eq 20, 3) := by decide +kernel
theorem dX8_used_88 : decode cX8_used 88 = .ok (.aload_n 0, 1) := by decide +kernel
theorem dX8_used_89 : decode cX8_used 89 = .ok (.iload 6, 2) := by decide +kernel
theorem dX8_used_91 : decode cX8_used 91 = .ok (.iconst 2, 1) := by decide +kernel
theorem dX8_used_92 : decode cX8_used 92 = .ok (.invokevirtual 130, 3) := by decide +kernel
theorem dX8_used_95 : decode cX8_used 95 = .ok (.aload_n 0, 1) := by decide +kernel
theorem dX8_used_96 : decode cX8_used 96 = .ok (.iload 5, 2) := by decide +kernel
theorem dX8_used_98 : decode cX8_used 98 = .ok (.iconst 2, 1) := by decide +kernel
theorem dX8_used_99 : decode cX8_used 99 = .ok (.invokevirtual 130, 3) := by decide +kernel
theorem dX8_used_102 : decode cX8_used 102 = .ok (.if_icmp .ge 8, 3) := by decide +kernel
theorem dX8_used_105 : decode cX8_used 105 = .ok (.iload 6, 2) := by decide +kernel
theorem dX8_used_107 : decode cX8_used 107 = .ok (.goto 5, 3) := by decide +kernel
theorem dX8_used_110 : decode cX8_used 110 = .ok (.iload 5, 2) := by decide +kernel
theorem dX8_used_112 : decode cX8_used 112 = .ok (.istore 5, 2) := by decide +kernel
theorem dX8_used_114 : decode cX8_used 114 = .ok (.iinc 6 1, 3) := by decide +kernel
theorem dX8_used_117 : decode cX8_used 117 = .ok (.goto (-111), 3) := by decide +kernel
theorem dX8_used_120 : decode cX8_used 120 = .ok (.iload 5, 2) := by decide +kernel
theorem dX8_used_122 : decode cX8_used 122 = .ok (.ireturn, 1) := by decide +kernel
theorem dX8_find_0 : decode cX8_find 0 = .ok (.aload_n 0, 1) := by decide +kernel
theorem dX8_find_1 : decode cX8_find 1 = .ok (.iconst 0, 1) := by decide +kernel
theorem dX8_find_2 : decode cX8_find 2 = .ok (.putfield 139, 3) := by decide +kernel
theorem dX8_find_5 : decode cX8_find 5 = .ok (.aload_n 0, 1) := by decide +kernel
theorem dX8_find_6 : decode cX8_find 6 = .ok (.iconst 0, 1) := by decide +kernel
theorem dX8_find_7 : decode cX8_find 7 = .ok (.putfield 142, 3) := by decide +kernel
theorem dX8_find_10 : decode cX8_find 10 = .ok (.aload_n 0, 1) := by decide +kernel
theorem dX8_find_11 : decode cX8_find 11 = .ok (.iconst 0, 1) := by decide +kernel
theorem dX8_find_12 : decode cX8_find 12 = .ok (.putfield 145, 3) := by decide +kernel
theorem dX8_find_15 : decode cX8_find 15 = .ok (.aload_n 0, 1) := by decide +kernel
theorem dX8_find_16 : decode cX8_find 16 = .ok (.iconst 0, 1) := by decide +kernel
theorem dX8_find_17 : decode cX8_find 17 = .ok (.putfield 148, 3) := by decide +kernel
theorem dX8_find_20 : decode cX8_find 20 = .ok (.iconst 0, 1) := by decide +kernel
theorem dX8_find_21 : decode cX8_find 21 = .ok (.istore_n 2, 1) := by decide +kernel
theorem dX8_find_22 : decode cX8_find 22 = .ok (.iload_n 2, 1) := by decide +kernel
theorem dX8_find_23 : decode cX8_find 23 = .ok (.bipush 9, 2) := by decide +kernel
theorem dX8_find_25 : decode cX8_find 25 = .ok (.if_icmp .ge 98, 3) := by decide +kernel
theorem dX8_find_28 : decode cX8_find 28 = .ok (.aload_n 0, 1) := by decide +kernel
theorem dX8_find_29 : decode cX8_find 29 = .ok (.iload_n 1, 1) := by decide +kernel
theorem dX8_find_30 : decode cX8_find 30 = .ok (.iload_n 2, 1) := by decide +kernel
theorem dX8_find_31 : decode cX8_find 31 = .ok (.invokevirtual 151, 3) := by decide +kernel
theorem dX8_find_34 : decode cX8_find 34 = .ok (.istore_n 3, 1) := by decide +kernel
theorem dX8_find_35 : decode cX8_find 35 = .ok (.aload_n 0, 1) := by decide +kernel
theorem dX8_find_36 : decode cX8_find 36 = .ok (.iload_n 1, 1) := by decide +kernel
theorem dX8_find_37 : decode cX8_find 37 = .ok (.iload_n 2, 1) := by decide +kernel
theorem dX8_find_38 : decode cX8_find 38 = .ok (.invokevirtual 154, 3) := by decide +kernel
theorem dX8_find_41 : decode cX8_find 41 = .ok (.istore 4, 2) := by decide +kernel
theorem dX8_find_43 : decode cX8_find 43 = .ok (.iload_n 2, 1) := by decide +kernel
theorem dX8_find_44 : decode cX8_find 44 = .ok (.iload_n 3, 1) := by decide +kernel
theorem dX8_find_45 : decode cX8_find 45 = .ok (.iload 4, 2) := by decide +kernel
theorem dX8_find_47 : decode cX8_find 47 = .ok (.invokestatic 127, 3) := by decide +kernel
theorem dX8_find_50 : decode cX8_find 50 = .ok (.ifCond .eq 67, 3) := by decide +kernel
theorem dX8_find_53 : decode cX8_find 53 = .ok (.aload_n 0, 1) := by decide +kernel
theorem dX8_find_54 : decode cX8_find 54 = .ok (.dup, 1) := by decide +kernel
theorem dX8_find_55 : decode cX8_find 55 = .ok (.getfield 139, 3) := by decide +kernel
theorem dX8_find_58 : decode cX8_find 58 = .ok (.iconst 1, 1) := by decide +kernel
theorem dX8_find_59 : decode cX8_find 59 = .ok (.iload_n 2, 1) := by decide +kernel
theorem dX8_find_60 : decode cX8_find 60 = .ok (.ishl, 1) := by decide +kernel
theorem dX8_find_61 : decode cX8_find 61 = .ok (.ior, 1) := by decide +kernel
theorem dX8_find_62 : decode cX8_find 62 = .ok (.putfield 139, 3) := by decide +kernel
theorem dX8_find_65 : decode cX8_find 65 = .ok (.aload_n 0, 1) := by decide +kernel
theorem dX8_find_66 : decode cX8_find 66 = .ok (.iload_n 1, 1) := by decide +kernel
theorem dX8_find_67 : decode cX8_find 67 = .ok (.iload_n 2, 1) := by decide +kernel
theorem dX8_find_68 : decode cX8_find 68 = .ok (.iload_n 3, 1) := by decide +kernel
theorem dX8_find_69 : decode cX8_find 69 = .ok (.iload 4, 2) := by decide +kernel
theorem dX8_find_71 : decode cX8_find 71 = .ok (.invokevirtual 157, 3) := by decide +kernel
theorem dX8_find_74 : decode cX8_find 74 = .ok (.istore 5, 2) := by decide +kernel
theorem dX8_find_76 : decode cX8_find 76 = .ok (.iload 5, 2) := by decide +kernel
theorem dX8_find_78 : decode cX8_find 78 = .ok (.iconst (-1), 1) := by decide +kernel
theorem dX8_find_79 : decode cX8_find 79 = .ok (.if_icmp .eq 38, 3) := by decide +kernel
theorem dX8_find_82 : decode cX8_find 82 = .ok (.aload_n 0, 1) := by decide +kernel
theorem dX8_find_83 : decode cX8_find 83 = .ok (.dup, 1) := by decide +kernel
theorem dX8_find_84 : decode cX8_find 84 = .ok (.getfield 142, 3) := by decide +kernel
theorem dX8_find_87 : decode cX8_find 87 = .ok (.iconst 1, 1) := by decide +kernel
theorem dX8_find_88 : decode cX8_find 88 = .ok (.iload_n 2, 1) := by decide +kernel
theorem dX8_find_89 : decode cX8_find 89 = .ok (.ishl, 1) := by decide +kernel
theorem dX8_find_90 : decode cX8_find 90 = .ok (.ior, 1) := by decide +kernel
theorem dX8_find_91 : decode cX8_find 91 = .ok (.putfield 142, 3) := by decide +kernel
theorem dX8_find_94 : decode cX8_find 94 = .ok (.aload_n 0, 1) := by decide +kernel
theorem dX8_find_95 : decode cX8_find 95 = .ok (.dup, 1) := by decide +kernel
theorem dX8_find_96 : decode cX8_find 96 = .ok (.getfield 145, 3) := by decide +kernel
theorem dX8_find_99 : decode cX8_find 99 = .ok (.iconst 1, 1) := by decide +kernel
theorem dX8_find_100 : decode cX8_find 100 = .ok (.iload 5, 2) := by decide +kernel
theorem dX8_find_102 : decode cX8_find 102 = .ok (.ishl, 1) := by decide +kernel
theorem dX8_find_103 : decode cX8_find 103 = .ok (.ior, 1) := by decide +kernel
theorem dX8_find_104 : decode cX8_find 104 = .ok (.putfield 145, 3) := by decide +kernel
theorem dX8_find_107 : decode cX8_find 107 = .ok (.aload_n 0, 1) := by decide +kernel
theorem dX8_find_108 : decode cX8_find 108 = .ok (.dup, 1) := by decide +kernel
theorem dX8_find_109 : decode cX8_find 109 = .ok (.getfield 148, 3) := by decide +kernel
theorem dX8_find_112 : decode cX8_find 112 = .ok (.iconst 1, 1) := by decide +kernel
theorem dX8_find_113 : decode cX8_find 113 = .ok (.iadd, 1) := by decide +kernel
theorem dX8_find_114 : decode cX8_find 114 = .ok (.putfield 148, 3) := by decide +kernel
theorem dX8_find_117 : decode cX8_find 117 = .ok (.iinc 2 1, 3) := by decide +kernel
theorem dX8_find_120 : decode cX8_find 120 = .ok (.goto (-98), 3) := by decide +kernel
theorem dX8_find_123 : decode cX8_find 123 = .ok (.return_, 1) := by decide +kernel
theorem dX8_append_0 : decode cX8_append 0 = .ok (.aload_n 0, 1) := by decide +kernel
theorem dX8_append_1 : decode cX8_append 1 = .ok (.iconst 0, 1) := by decide +kernel
theorem dX8_append_2 : decode cX8_append 2 = .ok (.putfield 1, 3) := by decide +kernel
theorem dX8_append_5 : decode cX8_append 5 = .ok (.iconst 0, 1) := by decide +kernel
theorem dX8_append_6 : decode cX8_append 6 = .ok (.istore_n 2, 1) := by decide +kernel
theorem dX8_append_7 : decode cX8_append 7 = .ok (.bipush 24, 2) := by decide +kernel
theorem dX8_append_9 : decode cX8_append 9 = .ok (.istore_n 3, 1) := by decide +kernel
theorem dX8_append_10 : decode cX8_append 10 = .ok (.iload_n 3, 1) := by decide +kernel
theorem dX8_append_11 : decode cX8_append 11 = .ok (.ifCond .lt 60, 3) := by decide +kernel
theorem dX8_append_14 : decode cX8_append 14 = .ok (.iload_n 1, 1) := by decide +kernel
theorem dX8_append_15 : decode cX8_append 15 = .ok (.iload_n 3, 1) := by decide +kernel
theorem dX8_append_16 : decode cX8_append 16 = .ok (.iushr, 1) := by decide +kernel
theorem dX8_append_17 : decode cX8_append 17 = .ok (.sipush 255, 3) := by decide +kernel
theorem dX8_append_20 : decode cX8_append 20 = .ok (.iand, 1) := by decide +kernel
theorem dX8_append_21 : decode cX8_append 21 = .ok (.istore 4, 2) := by decide +kernel
theorem dX8_append_23 : decode cX8_append 23 = .ok (.aload_n 0, 1) := by decide +kernel
theorem dX8_append_24 : decode cX8_append 24 = .ok (.iload 4, 2) := by decide +kernel
theorem dX8_append_26 : decode cX8_append 26 = .ok (.ifCond .eq 19, 3) := by decide +kernel
theorem dX8_append_29 : decode cX8_append 29 = .ok (.iload 4, 2) := by decide +kernel
theorem dX8_append_31 : decode cX8_append 31 = .ok (.bipush 33, 2) := by decide +kernel
theorem dX8_append_33 : decode cX8_append 33 = .ok (.bipush 126, 2) := by decide +kernel
theorem dX8_append_35 : decode cX8_append 35 = .ok (.invokestatic 49, 3) := by decide +kernel
theorem dX8_append_38 : decode cX8_append 38 = .ok (.ifCond .ne 7, 3) := by decide +kernel
theorem dX8_append_41 : decode cX8_append 41 = .ok (.iconst 1, 1) := by decide +kernel
theorem dX8_append_42 : decode cX8_append 42 = .ok (.goto 7, 3) := by decide +kernel
theorem dX8_append_45 : decode cX8_append 45 = .ok (.aload_n 0, 1) := by decide +kernel
theorem dX8_append_46 : decode cX8_append 46 = .ok (.getfield 1, 3) := by decide +kernel
theorem dX8_append_49 : decode cX8_append 49 = .ok (.putfield 1, 3) := by decide +kernel
theorem dX8_append_52 : decode cX8_append 52 = .ok (.iload_n 2, 1) := by decide +kernel
theorem dX8_append_53 : decode cX8_append 53 = .ok (.iload 4, 2) := by decide +kernel
theorem dX8_append_55 : decode cX8_append 55 = .ok (.ifCond .eq 7, 3) := by decide +kernel
theorem dX8_append_58 : decode cX8_append 58 = .ok (.iconst 1, 1) := by decide +kernel
theorem dX8_append_59 : decode cX8_append 59 = .ok (.goto 4, 3) := by decide +kernel
theorem dX8_append_62 : decode cX8_append 62 = .ok (.iconst 0, 1) := by decide +kernel
theorem dX8_append_63 : decode cX8_append 63 = .ok (.iadd, 1) := by decide +kernel
theorem dX8_append_64 : decode cX8_append 64 = .ok (.istore_n 2, 1) := by decide +kernel
theorem dX8_append_65 : decode cX8_append 65 = .ok (.iinc 3 (-8), 3) := by decide +kernel
theorem dX8_append_68 : decode cX8_append 68 = .ok (.goto (-58), 3) := by decide +kernel
theorem dX8_append_71 : decode cX8_append 71 = .ok (.aload_n 0, 1) := by decide +kernel
theorem dX8_append_72 : decode cX8_append 72 = .ok (.getfield 1, 3) := by decide +kernel
theorem dX8_append_75 : decode cX8_append 75 = .ok (.ifCond .eq 5, 3) := by decide +kernel
theorem dX8_append_78 : decode cX8_append 78 = .ok (.iconst 0, 1) := by decide +kernel
theorem dX8_append_79 : decode cX8_append 79 = .ok (.ireturn, 1) := by decide +kernel
theorem dX8_append_80 : decode cX8_append 80 = .ok (.aload_n 0, 1) := by decide +kernel
theorem dX8_append_81 : decode cX8_append 81 = .ok (.getfield 160, 3) := by decide +kernel
theorem dX8_append_84 : decode cX8_append 84 = .ok (.iload_n 2, 1) := by decide +kernel
theorem dX8_append_85 : decode cX8_append 85 = .ok (.iadd, 1) := by decide +kernel
theorem dX8_append_86 : decode cX8_append 86 = .ok (.bipush 60, 2) := by decide +kernel
theorem dX8_append_88 : decode cX8_append 88 = .ok (.if_icmp .le 9, 3) := by decide +kernel
theorem dX8_append_91 : decode cX8_append 91 = .ok (.aload_n 0, 1) := by decide +kernel
theorem dX8_append_92 : decode cX8_append 92 = .ok (.iconst 2, 1) := by decide +kernel
theorem dX8_append_93 : decode cX8_append 93 = .ok (.invokevirtual 163, 3) := by decide +kernel
theorem dX8_append_96 : decode cX8_append 96 = .ok (.ireturn, 1) := by decide +kernel
theorem dX8_append_97 : decode cX8_append 97 = .ok (.bipush 24, 2) := by decide +kernel
theorem dX8_append_99 : decode cX8_append 99 = .ok (.istore_n 3, 1) := by decide +kernel
theorem dX8_append_100 : decode cX8_append 100 = .ok (.iload_n 3, 1) := by decide +kernel
theorem dX8_append_101 : decode cX8_append 101 = .ok (.ifCond .lt 44, 3) := by decide +kernel
theorem dX8_append_104 : decode cX8_append 104 = .ok (.iload_n 1, 1) := by decide +kernel
theorem dX8_append_105 : decode cX8_append 105 = .ok (.iload_n 3, 1) := by decide +kernel
theorem dX8_append_106 : decode cX8_append 106 = .ok (.iushr, 1) := by decide +kernel
theorem dX8_append_107 : decode cX8_append 107 = .ok (.sipush 255, 3) := by decide +kernel
theorem dX8_append_110 : decode cX8_append 110 = .ok (.iand, 1) := by decide +kernel
theorem dX8_append_111 : decode cX8_append 111 = .ok (.istore 4, 2) := by decide +kernel
theorem dX8_append_113 : decode cX8_append 113 = .ok (.iload 4, 2) := by decide +kernel
theorem dX8_append_115 : decode cX8_append 115 = .ok (.ifCond .eq 24, 3) := by decide +kernel
theorem dX8_append_118 : decode cX8_append 118 = .ok (.aload_n 0, 1) := by decide +kernel
theorem dX8_append_119 : decode cX8_append 119 = .ok (.getfield 26, 3) := by decide +kernel
theorem dX8_append_122 : decode cX8_append 122 = .ok (.aload_n 0, 1) := by decide +kernel
theorem dX8_append_123 : decode cX8_append 123 = .ok (.getfield 160, 3) := by decide +kernel
theorem dX8_append_126 : decode cX8_append 126 = .ok (.iload 4, 2) := by decide +kernel
theorem dX8_append_128 : decode cX8_append 128 = .ok (.iastore, 1) := by decide +kernel
theorem dX8_append_129 : decode cX8_append 129 = .ok (.aload_n 0, 1) := by decide +kernel
theorem dX8_append_130 : decode cX8_append 130 = .ok (.dup, 1) := by decide +kernel
theorem dX8_append_131 : decode cX8_append 131 = .ok (.getfield 160, 3) := by decide +kernel
theorem dX8_append_134 : decode cX8_append 134 = .ok (.iconst 1, 1) := by decide +kernel
theorem dX8_append_135 : decode cX8_append 135 = .ok (.iadd, 1) := by decide +kernel
theorem dX8_append_136 : decode cX8_append 136 = .ok (.putfield 160, 3) := by decide +kernel
theorem dX8_append_139 : decode cX8_append 139 = .ok (.iinc 3 (-8), 3) := by decide +kernel
theorem dX8_append_142 : decode cX8_append 142 = .ok (.goto (-42), 3) := by decide +kernel
theorem dX8_append_145 : decode cX8_append 145 = .ok (.aload_n 0, 1) := by decide +kernel
theorem dX8_append_146 : decode cX8_append 146 = .ok (.getfield 160, 3) := by decide +kernel
theorem dX8_append_149 : decode cX8_append 149 = .ok (.ireturn, 1) := by decide +kernel
theorem dX8_sign_0 : decode cX8_sign 0 = .ok (.aload_n 0, 1) := by decide +kernel
theorem dX8_sign_1 : decode cX8_sign 1 = .ok (.getfield 166, 3) := by decide +kernel
theorem dX8_sign_4 : decode cX8_sign 4 = .ok (.aload_n 0, 1) := by decide +kernel
theorem dX8_sign_5 : decode cX8_sign 5 = .ok (.getfield 169, 3) := by decide +kernel
theorem dX8_sign_8 : decode cX8_sign 8 = .ok (.if_icmp .ge 15, 3) := by decide +kernel
theorem dX8_sign_11 : decode cX8_sign 11 = .ok (.aload_n 0, 1) := by decide +kernel
theorem dX8_sign_12 : decode cX8_sign 12 = .ok (.getfield 26, 3) := by decide +kernel
theorem dX8_sign_15 : decode cX8_sign 15 = .ok (.aload_n 0, 1) := by decide +kernel
theorem dX8_sign_16 : decode cX8_sign 16 = .ok (.getfield 166, 3) := by decide +kernel
theorem dX8_sign_19 : decode cX8_sign 19 = .ok (.iaload, 1) := by decide +kernel
theorem dX8_sign_20 : decode cX8_sign 20 = .ok (.goto 4, 3) := by decide +kernel
theorem dX8_sign_23 : decode cX8_sign 23 = .ok (.iconst (-1), 1) := by decide +kernel
theorem dX8_sign_24 : decode cX8_sign 24 = .ok (.ireturn, 1) := by decide +kernel
theorem dX8_faultAt_0 : decode cX8_faultAt 0 = .ok (.aload_n 0, 1) := by decide +kernel
theorem dX8_faultAt_1 : decode cX8_faultAt 1 = .ok (.aload_n 0, 1) := by decide +kernel
theorem dX8_faultAt_2 : decode cX8_faultAt 2 = .ok (.getfield 29, 3) := by decide +kernel
theorem dX8_faultAt_5 : decode cX8_faultAt 5 = .ok (.iconst (-1), 1) := by decide +kernel
theorem dX8_faultAt_6 : decode cX8_faultAt 6 = .ok (.if_icmp .ne 7, 3) := by decide +kernel
theorem dX8_faultAt_9 : decode cX8_faultAt 9 = .ok (.iload_n 1, 1) := by decide +kernel
theorem dX8_faultAt_10 : decode cX8_faultAt 10 = .ok (.goto 7, 3) := by decide +kernel
theorem dX8_faultAt_13 : decode cX8_faultAt 13 = .ok (.aload_n 0, 1) := by decide +kernel
theorem dX8_faultAt_14 : decode cX8_faultAt 14 = .ok (.getfield 29, 3) := by decide +kernel
theorem dX8_faultAt_17 : decode cX8_faultAt 17 = .ok (.putfield 29, 3) := by decide +kernel
theorem dX8_faultAt_20 : decode cX8_faultAt 20 = .ok (.return_, 1) := by decide +kernel
theorem dX8_must_0 : decode cX8_must 0 = .ok (.aload_n 0, 1) := by decide +kernel
theorem dX8_must_1 : decode cX8_must 1 = .ok (.getfield 29, 3) := by decide +kernel
theorem dX8_must_4 : decode cX8_must 4 = .ok (.iconst (-1), 1) := by decide +kernel
theorem dX8_must_5 : decode cX8_must 5 = .ok (.if_icmp .ne 24, 3) := by decide +kernel
theorem dX8_must_8 : decode cX8_must 8 = .ok (.aload_n 0, 1) := by decide +kernel
theorem dX8_must_9 : decode cX8_must 9 = .ok (.invokevirtual 172, 3) := by decide +kernel
theorem dX8_must_12 : decode cX8_must 12 = .ok (.iload_n 1, 1) := by decide +kernel
theorem dX8_must_13 : decode cX8_must 13 = .ok (.if_icmp .ne 16, 3) := by decide +kernel
theorem dX8_must_16 : decode cX8_must 16 = .ok (.aload_n 0, 1) := by decide +kernel
theorem dX8_must_17 : decode cX8_must 17 = .ok (.dup, 1) := by decide +kernel
theorem dX8_must_18 : decode cX8_must 18 = .ok (.getfield 166, 3) := by decide +kernel
theorem dX8_must_21 : decode cX8_must 21 = .ok (.iconst 1, 1) := by decide +kernel
theorem dX8_must_22 : decode cX8_must 22 = .ok (.iadd, 1) := by decide +kernel
theorem dX8_must_23 : decode cX8_must 23 = .ok (.putfield 166, 3) := by decide +kernel
theorem dX8_must_26 : decode cX8_must 26 = .ok (.goto 11, 3) := by decide +kernel
theorem dX8_must_29 : decode cX8_must 29 = .ok (.aload_n 0, 1) := by decide +kernel
theorem dX8_must_30 : decode cX8_must 30 = .ok (.aload_n 0, 1) := by decide +kernel
theorem dX8_must_31 : decode cX8_must 31 = .ok (.getfield 166, 3) := by decide +kernel
theorem dX8_must_34 : decode cX8_must 34 = .ok (.invokevirtual 176, 3) := by decide +kernel
theorem dX8_must_37 : decode cX8_must 37 = .ok (.return_, 1) := by decide +kernel
theorem dX8_sign__0 : decode cX8_sign_ 0 = .ok (.aload_n 0, 1) := by decide +kernel
theorem dX8_sign__1 : decode cX8_sign_ 1 = .ok (.invokevirtual 172, 3) := by decide +kernel
theorem dX8_sign__4 : decode cX8_sign_ 4 = .ok (.iload_n 1, 1) := by decide +kernel
theorem dX8_sign__5 : decode cX8_sign_ 5 = .ok (.isub, 1) := by decide +kernel
theorem dX8_sign__6 : decode cX8_sign_ 6 = .ok (.istore_n 3, 1) := by decide +kernel
theorem dX8_sign__7 : decode cX8_sign_ 7 = .ok (.aload_n 0, 1) := by decide +kernel
theorem dX8_sign__8 : decode cX8_sign_ 8 = .ok (.getfield 29, 3) := by decide +kernel
theorem dX8_sign__11 : decode cX8_sign_ 11 = .ok (.iconst (-1), 1) := by decide +kernel
theorem dX8_sign__12 : decode cX8_sign_ 12 = .ok (.if_icmp .ne 27, 3) := by decide +kernel
theorem dX8_sign__15 : decode cX8_sign_ 15 = .ok (.aload_n 0, 1) := by decide +kernel
theorem dX8_sign__16 : decode cX8_sign_ 16 = .ok (.invokevirtual 172, 3) := by decide +kernel
theorem dX8_sign__19 : decode cX8_sign_ 19 = .ok (.iload_n 1, 1) := by decide +kernel
theorem dX8_sign__20 : decode cX8_sign_ 20 = .ok (.iload_n 2, 1) := by decide +kernel
theorem dX8_sign__21 : decode cX8_sign_ 21 = .ok (.invokestatic 49, 3) := by decide +kernel
theorem dX8_sign__24 : decode cX8_sign_ 24 = .ok (.ifCond .eq 15, 3) := by decide +kernel
theorem dX8_sign__27 : decode cX8_sign_ 27 = .ok (.aload_n 0, 1) := by decide +kernel
theorem dX8_sign__28 : decode cX8_sign_ 28 = .ok (.dup, 1) := by decide +kernel
theorem dX8_sign__29 : decode cX8_sign_ 29 = .ok (.getfield 166, 3) := by decide +kernel
theorem dX8_sign__32 : decode cX8_sign_ 32 = .ok (.iconst 1, 1) := by decide +kernel
theorem dX8_sign__33 : decode cX8_sign_ 33 = .ok (.iadd, 1) := by decide +kernel
theorem dX8_sign__34 : decode cX8_sign_ 34 = .ok (.putfield 166, 3) := by decide +kernel
theorem dX8_sign__37 : decode cX8_sign_ 37 = .ok (.iload_n 3, 1) := by decide +kernel
theorem dX8_sign__38 : decode cX8_sign_ 38 = .ok (.ireturn, 1) := by decide +kernel
theorem dX8_sign__39 : decode cX8_sign_ 39 = .ok (.aload_n 0, 1) := by decide +kernel
theorem dX8_sign__40 : decode cX8_sign_ 40 = .ok (.aload_n 0, 1) := by decide +kernel
theorem dX8_sign__41 : decode cX8_sign_ 41 = .ok (.getfield 166, 3) := by decide +kernel
theorem dX8_sign__44 : decode cX8_sign_ 44 = .ok (.invokevirtual 176, 3) := by decide +kernel
theorem dX8_sign__47 : decode cX8_sign_ 47 = .ok (.iconst 0, 1) := by decide +kernel
theorem dX8_sign__48 : decode cX8_sign_ 48 = .ok (.ireturn, 1) := by decide +kernel
theorem dX8_digit_0 : decode cX8_digit 0 = .ok (.iload_n 1, 1) := by decide +kernel
theorem dX8_digit_1 : decode cX8_digit 1 = .ok (.aload_n 0, 1) := by decide +kernel
theorem dX8_digit_2 : decode cX8_digit 2 = .ok (.bipush 48, 2) := by decide +kernel
theorem dX8_digit_4 : decode cX8_digit 4 = .ok (.iload_n 1, 1) := by decide +kernel
theorem dX8_digit_5 : decode cX8_digit 5 = .ok (.iadd, 1) := by decide +kernel
theorem dX8_digit_6 : decode cX8_digit 6 = .ok (.i2c, 1) := by decide +kernel
theorem dX8_digit_7 : decode cX8_digit 7 = .ok (.bipush 48, 2) := by decide +kernel
theorem dX8_digit_9 : decode cX8_digit 9 = .ok (.iload_n 2, 1) := by decide +kernel
theorem dX8_digit_10 : decode cX8_digit 10 = .ok (.iadd, 1) := by decide +kernel
theorem dX8_digit_11 : decode cX8_digit 11 = .ok (.i2c, 1) := by decide +kernel
theorem dX8_digit_12 : decode cX8_digit 12 = .ok (.invokevirtual 180, 3) := by decide +kernel
theorem dX8_digit_15 : decode cX8_digit 15 = .ok (.iadd, 1) := by decide +kernel
theorem dX8_digit_16 : decode cX8_digit 16 = .ok (.ireturn, 1) := by decide +kernel
theorem dX8_which_0 : decode cX8_which 0 = .ok (.iload_n 1, 1) := by decide +kernel
theorem dX8_which_1 : decode cX8_which 1 = .ok (.ifCond .ne 13, 3) := by decide +kernel
theorem dX8_which_4 : decode cX8_which 4 = .ok (.aload_n 0, 1) := by decide +kernel
theorem dX8_which_5 : decode cX8_which 5 = .ok (.aload_n 0, 1) := by decide +kernel
theorem dX8_which_6 : decode cX8_which 6 = .ok (.getfield 166, 3) := by decide +kernel
theorem dX8_which_9 : decode cX8_which 9 = .ok (.invokevirtual 176, 3) := by decide +kernel
theorem dX8_which_12 : decode cX8_which 12 = .ok (.iconst 0, 1) := by decide +kernel
theorem dX8_which_13 : decode cX8_which 13 = .ok (.ireturn, 1) := by decide +kernel
theorem dX8_which_14 : decode cX8_which 14 = .ok (.aload_n 0, 1) := by decide +kernel
theorem dX8_which_15 : decode cX8_which 15 = .ok (.iconst 0, 1) := by decide +kernel
theorem dX8_which_16 : decode cX8_which 16 = .ok (.bipush 9, 2) := by decide +kernel
theorem dX8_which_18 : decode cX8_which 18 = .ok (.iload_n 1, 1) := by decide +kernel
theorem dX8_which_19 : decode cX8_which 19 = .ok (.iconst 1, 1) := by decide +kernel
theorem dX8_which_20 : decode cX8_which 20 = .ok (.isub, 1) := by decide +kernel
theorem dX8_which_21 : decode cX8_which 21 = .ok (.invokestatic 88, 3) := by decide +kernel
theorem dX8_which_24 : decode cX8_which 24 = .ok (.invokevirtual 183, 3) := by decide +kernel
theorem dX8_which_27 : decode cX8_which 27 = .ok (.ireturn, 1) := by decide +kernel
theorem dX8_number_0 : decode cX8_number 0 = .ok (.aload_n 0, 1) := by decide +kernel
theorem dX8_number_1 : decode cX8_number 1 = .ok (.getfield 166, 3) := by decide +kernel
theorem dX8_number_4 : decode cX8_number 4 = .ok (.istore_n 3, 1) := by decide +kernel
theorem dX8_number_5 : decode cX8_number 5 = .ok (.aload_n 0, 1) := by decide +kernel
theorem dX8_number_6 : decode cX8_number 6 = .ok (.iconst 0, 1) := by decide +kernel
theorem dX8_number_7 : decode cX8_number 7 = .ok (.bipush 9, 2) := by decide +kernel
theorem dX8_number_9 : decode cX8_number 9 = .ok (.invokevirtual 183, 3) := by decide +kernel
theorem dX8_number_12 : decode cX8_number 12 = .ok (.istore 4, 2) := by decide +kernel
theorem dX8_number_14 : decode cX8_number 14 = .ok (.aload_n 0, 1) := by decide +kernel
theorem dX8_number_15 : decode cX8_number 15 = .ok (.getfield 29, 3) := by decide +kernel
theorem dX8_number_18 : decode cX8_number 18 = .ok (.iconst (-1), 1) := by decide +kernel
theorem dX8_number_19 : decode cX8_number 19 = .ok (.if_icmp .ne 47, 3) := by decide +kernel
theorem dX8_number_22 : decode cX8_number 22 = .ok (.iload 4, 2) := by decide +kernel
theorem dX8_number_24 : decode cX8_number 24 = .ok (.ifCond .le 42, 3) := by decide +kernel
theorem dX8_number_27 : decode cX8_number 27 = .ok (.aload_n 0, 1) := by decide +kernel
theorem dX8_number_28 : decode cX8_number 28 = .ok (.invokevirtual 172, 3) := by decide +kernel
theorem dX8_number_31 : decode cX8_number 31 = .ok (.bipush 48, 2) := by decide +kernel
theorem dX8_number_33 : decode cX8_number 33 = .ok (.bipush 57, 2) := by decide +kernel
theorem dX8_number_35 : decode cX8_number 35 = .ok (.invokestatic 49, 3) := by decide +kernel
theorem dX8_number_38 : decode cX8_number 38 = .ok (.ifCond .eq 28, 3) := by decide +kernel
theorem dX8_number_41 : decode cX8_number 41 = .ok (.bipush 10, 2) := by decide +kernel
theorem dX8_number_43 : decode cX8_number 43 = .ok (.iload 4, 2) := by decide +kernel
theorem dX8_number_45 : decode cX8_number 45 = .ok (.imul, 1) := by decide +kernel
theorem dX8_number_46 : decode cX8_number 46 = .ok (.aload_n 0, 1) := by decide +kernel
theorem dX8_number_47 : decode cX8_number 47 = .ok (.invokevirtual 172, 3) := by decide +kernel
theorem dX8_number_50 : decode cX8_number 50 = .ok (.iadd, 1) := by decide +kernel
theorem dX8_number_51 : decode cX8_number 51 = .ok (.bipush 48, 2) := by decide +kernel
theorem dX8_number_53 : decode cX8_number 53 = .ok (.isub, 1) := by decide +kernel
theorem dX8_number_54 : decode cX8_number 54 = .ok (.istore 4, 2) := by decide +kernel
theorem dX8_number_56 : decode cX8_number 56 = .ok (.aload_n 0, 1) := by decide +kernel
theorem dX8_number_57 : decode cX8_number 57 = .ok (.dup, 1) := by decide +kernel
theorem dX8_number_58 : decode cX8_number 58 = .ok (.getfield 166, 3) := by decide +kernel
theorem dX8_number_61 : decode cX8_number 61 = .ok (.iconst 1, 1) := by decide +kernel
theorem dX8_number_62 : decode cX8_number 62 = .ok (.iadd, 1) := by decide +kernel
theorem dX8_number_63 : decode cX8_number 63 = .ok (.putfield 166, 3) := by decide +kernel
theorem dX8_number_66 : decode cX8_number 66 = .ok (.aload_n 0, 1) := by decide +kernel
theorem dX8_number_67 : decode cX8_number 67 = .ok (.getfield 29, 3) := by decide +kernel
theorem dX8_number_70 : decode cX8_number 70 = .ok (.iconst (-1), 1) := by decide +kernel
theorem dX8_number_71 : decode cX8_number 71 = .ok (.if_icmp .ne 18, 3) := by decide +kernel
theorem dX8_number_74 : decode cX8_number 74 = .ok (.iload 4, 2) := by decide +kernel
theorem dX8_number_76 : decode cX8_number 76 = .ok (.iload_n 1, 1) := by decide +kernel
theorem dX8_number_77 : decode cX8_number 77 = .ok (.iload_n 2, 1) := by decide +kernel
theorem dX8_number_78 : decode cX8_number 78 = .ok (.invokestatic 49, 3) := by decide +kernel
theorem dX8_number_81 : decode cX8_number 81 = .ok (.ifCond .ne 8, 3) := by decide +kernel
theorem dX8_number_84 : decode cX8_number 84 = .ok (.aload_n 0, 1) := by decide +kernel
theorem dX8_number_85 : decode cX8_number 85 = .ok (.iload_n 3, 1) := by decide +kernel
theorem dX8_number_86 : decode cX8_number 86 = .ok (.invokevirtual 176, 3) := by decide +kernel
theorem dX8_number_89 : decode cX8_number 89 = .ok (.iload 4, 2) := by decide +kernel
theorem dX8_number_91 : decode cX8_number 91 = .ok (.ireturn, 1) := by decide +kernel
theorem dX8_isColumn_0 : decode cX8_isColumn 0 = .ok (.iload_n 0, 1) := by decide +kernel
theorem dX8_isColumn_1 : decode cX8_isColumn 1 = .ok (.bipush 97, 2) := by decide +kernel
theorem dX8_isColumn_3 : decode cX8_isColumn 3 = .ok (.bipush 116, 2) := by decide +kernel
theorem dX8_isColumn_5 : decode cX8_isColumn 5 = .ok (.invokestatic 49, 3) := by decide +kernel
theorem dX8_isColumn_8 : decode cX8_isColumn 8 = .ok (.ireturn, 1) := by decide +kernel
theorem dX8_readArea_0 : decode cX8_readArea 0 = .ok (.aload_n 0, 1) := by decide +kernel
theorem dX8_readArea_1 : decode cX8_readArea 1 = .ok (.iconst 0, 1) := by decide +kernel
theorem dX8_readArea_2 : decode cX8_readArea 2 = .ok (.putfield 186, 3) := by decide +kernel
theorem dX8_readArea_5 : decode cX8_readArea 5 = .ok (.aload_n 0, 1) := by decide +kernel
theorem dX8_readArea_6 : decode cX8_readArea 6 = .ok (.getfield 29, 3) := by decide +kernel
theorem dX8_readArea_9 : decode cX8_readArea 9 = .ok (.iconst (-1), 1) := by decide +kernel
theorem dX8_readArea_10 : decode cX8_readArea 10 = .ok (.if_icmp .ne 174, 3) := by decide +kernel
theorem dX8_readArea_13 : decode cX8_readArea 13 = .ok (.aload_n 0, 1) := by decide +kernel
theorem dX8_readArea_14 : decode cX8_readArea 14 = .ok (.getfield 186, 3) := by decide +kernel
theorem dX8_readArea_17 : decode cX8_readArea 17 = .ok (.ifCond .eq 13, 3) := by decide +kernel
theorem dX8_readArea_20 : decode cX8_readArea 20 = .ok (.aload_n 0, 1) := by decide +kernel
theorem dX8_readArea_21 : decode cX8_readArea 21 = .ok (.invokevirtual 172, 3) := by decide +kernel
theorem dX8_readArea_24 : decode cX8_readArea 24 = .ok (.invokestatic 189, 3) := by decide +kernel
theorem dX8_readArea_27 : decode cX8_readArea 27 = .ok (.ifCond .eq 157, 3) := by decide +kernel
theorem dX8_readArea_30 : decode cX8_readArea 30 = .ok (.aload_n 0, 1) := by decide +kernel
theorem dX8_readArea_31 : decode cX8_readArea 31 = .ok (.getfield 166, 3) := by decide +kernel
theorem dX8_readArea_34 : decode cX8_readArea 34 = .ok (.istore_n 1, 1) := by decide +kernel
theorem dX8_readArea_35 : decode cX8_readArea 35 = .ok (.aload_n 0, 1) := by decide +kernel
theorem dX8_readArea_36 : decode cX8_readArea 36 = .ok (.getfield 186, 3) := by decide +kernel
theorem dX8_readArea_39 : decode cX8_readArea 39 = .ok (.iconst 3, 1) := by decide +kernel
theorem dX8_readArea_40 : decode cX8_readArea 40 = .ok (.if_icmp .ne 9, 3) := by decide +kernel
theorem dX8_readArea_43 : decode cX8_readArea 43 = .ok (.aload_n 0, 1) := by decide +kernel
theorem dX8_readArea_44 : decode cX8_readArea 44 = .ok (.iload_n 1, 1) := by decide +kernel
theorem dX8_readArea_45 : decode cX8_readArea 45 = .ok (.invokevirtual 176, 3) := by decide +kernel
theorem dX8_readArea_48 : decode cX8_readArea 48 = .ok (.return_, 1) := by decide +kernel
theorem dX8_readArea_49 : decode cX8_readArea 49 = .ok (.iconst 4, 1) := by decide +kernel
theorem dX8_readArea_50 : decode cX8_readArea 50 = .ok (.aload_n 0, 1) := by decide +kernel
theorem dX8_readArea_51 : decode cX8_readArea 51 = .ok (.getfield 186, 3) := by decide +kernel
theorem dX8_readArea_54 : decode cX8_readArea 54 = .ok (.imul, 1) := by decide +kernel
theorem dX8_readArea_55 : decode cX8_readArea 55 = .ok (.istore_n 2, 1) := by decide +kernel
theorem dX8_readArea_56 : decode cX8_readArea 56 = .ok (.aload_n 0, 1) := by decide +kernel
theorem dX8_readArea_57 : decode cX8_readArea 57 = .ok (.getfield 32, 3) := by decide +kernel
theorem dX8_readArea_60 : decode cX8_readArea 60 = .ok (.iload_n 2, 1) := by decide +kernel
theorem dX8_readArea_61 : decode cX8_readArea 61 = .ok (.aload_n 0, 1) := by decide +kernel
theorem dX8_readArea_62 : decode cX8_readArea 62 = .ok (.bipush 97, 2) := by decide +kernel
theorem dX8_readArea_64 : decode cX8_readArea 64 = .ok (.bipush 116, 2) := by decide +kernel
theorem dX8_readArea_66 : decode cX8_readArea 66 = .ok (.invokevirtual 180, 3) := by decide +kernel
theorem dX8_readArea_69 : decode cX8_readArea 69 = .ok (.iastore, 1) := by decide +kernel
theorem dX8_readArea_70 : decode cX8_readArea 70 = .ok (.aload_n 0, 1) := by decide +kernel
theorem dX8_readArea_71 : decode cX8_readArea 71 = .ok (.getfield 32, 3) := by decide +kernel
theorem dX8_readArea_74 : decode cX8_readArea 74 = .ok (.iload_n 2, 1) := by decide +kernel
theorem dX8_readArea_75 : decode cX8_readArea 75 = .ok (.iconst 1, 1) := by decide +kernel
theorem dX8_readArea_76 : decode cX8_readArea 76 = .ok (.iadd, 1) := by decide +kernel
theorem dX8_readArea_77 : decode cX8_readArea 77 = .ok (.aload_n 0, 1) := by decide +kernel
theorem dX8_readArea_78 : decode cX8_readArea 78 = .ok (.bipush 97, 2) := by decide +kernel
theorem dX8_readArea_80 : decode cX8_readArea 80 = .ok (.bipush 110, 2) := by decide +kernel
theorem dX8_readArea_82 : decode cX8_readArea 82 = .ok (.invokevirtual 180, 3) := by decide +kernel
theorem dX8_readArea_85 : decode cX8_readArea 85 = .ok (.iastore, 1) := by decide +kernel
theorem dX8_readArea_86 : decode cX8_readArea 86 = .ok (.aload_n 0, 1) := by decide +kernel
theorem dX8_readArea_87 : decode cX8_readArea 87 = .ok (.getfield 32, 3) := by decide +kernel
theorem dX8_readArea_90 : decode cX8_readArea 90 = .ok (.iload_n 2, 1) := by decide +kernel
theorem dX8_readArea_91 : decode cX8_readArea 91 = .ok (.iconst 2, 1) := by decide +kernel
theorem dX8_readArea_92 : decode cX8_readArea 92 = .ok (.iadd, 1) := by decide +kernel
theorem dX8_readArea_93 : decode cX8_readArea 93 = .ok (.aload_n 0, 1) := by decide +kernel
theorem dX8_readArea_94 : decode cX8_readArea 94 = .ok (.iconst 1, 1) := by decide +kernel
theorem dX8_readArea_95 : decode cX8_readArea 95 = .ok (.bipush 9, 2) := by decide +kernel
theorem dX8_readArea_97 : decode cX8_readArea 97 = .ok (.invokevirtual 183, 3) := by decide +kernel
theorem dX8_readArea_100 : decode cX8_readArea 100 = .ok (.iastore, 1) := by decide +kernel
theorem dX8_readArea_101 : decode cX8_readArea 101 = .ok (.aload_n 0, 1) := by decide +kernel
theorem dX8_readArea_102 : decode cX8_readArea 102 = .ok (.getfield 32, 3) := by decide +kernel
theorem dX8_readArea_105 : decode cX8_readArea 105 = .ok (.iload_n 2, 1) := by decide +kernel
theorem dX8_readArea_106 : decode cX8_readArea 106 = .ok (.iconst 3, 1) := by decide +kernel
theorem dX8_readArea_107 : decode cX8_readArea 107 = .ok (.iadd, 1) := by decide +kernel
theorem dX8_readArea_108 : decode cX8_readArea 108 = .ok (.aload_n 0, 1) := by decide +kernel
theorem dX8_readArea_109 : decode cX8_readArea 109 = .ok (.iconst 1, 1) := by decide +kernel
theorem dX8_readArea_110 : decode cX8_readArea 110 = .ok (.bipush 9, 2) := by decide +kernel
theorem dX8_readArea_112 : decode cX8_readArea 112 = .ok (.invokevirtual 183, 3) := by decide +kernel
theorem dX8_readArea_115 : decode cX8_readArea 115 = .ok (.iastore, 1) := by decide +kernel
theorem dX8_readArea_116 : decode cX8_readArea 116 = .ok (.aload_n 0, 1) := by decide +kernel
theorem dX8_readArea_117 : decode cX8_readArea 117 = .ok (.getfield 29, 3) := by decide +kernel
theorem dX8_readArea_120 : decode cX8_readArea 120 = .ok (.iconst (-1), 1) := by decide +kernel
theorem dX8_readArea_121 : decode cX8_readArea 121 = .ok (.if_icmp .ne 50, 3) := by decide +kernel
theorem dX8_readArea_124 : decode cX8_readArea 124 = .ok (.aload_n 0, 1) := by decide +kernel
theorem dX8_readArea_125 : decode cX8_readArea 125 = .ok (.getfield 32, 3) := by decide +kernel
theorem dX8_readArea_128 : decode cX8_readArea 128 = .ok (.iload_n 2, 1) := by decide +kernel
theorem dX8_readArea_129 : decode cX8_readArea 129 = .ok (.iaload, 1) := by decide +kernel
theorem dX8_readArea_130 : decode cX8_readArea 130 = .ok (.aload_n 0, 1) := by decide +kernel
theorem dX8_readArea_131 : decode cX8_readArea 131 = .ok (.getfield 32, 3) := by decide +kernel
theorem dX8_readArea_134 : decode cX8_readArea 134 = .ok (.iload_n 2, 1) := by decide +kernel
theorem dX8_readArea_135 : decode cX8_readArea 135 = .ok (.iconst 2, 1) := by decide +kernel
theorem dX8_readArea_136 : decode cX8_readArea 136 = .ok (.iadd, 1) := by decide +kernel
theorem dX8_readArea_137 : decode cX8_readArea 137 = .ok (.iaload, 1) := by decide +kernel
theorem dX8_readArea_138 : decode cX8_readArea 138 = .ok (.iadd, 1) := by decide +kernel
theorem dX8_readArea_139 : decode cX8_readArea 139 = .ok (.bipush 20, 2) := by decide +kernel
theorem dX8_readArea_141 : decode cX8_readArea 141 = .ok (.if_icmp .gt 25, 3) := by decide +kernel
theorem dX8_readArea_144 : decode cX8_readArea 144 = .ok (.aload_n 0, 1) := by decide +kernel
theorem dX8_readArea_145 : decode cX8_readArea 145 = .ok (.getfield 32, 3) := by decide +kernel
theorem dX8_readArea_148 : decode cX8_readArea 148 = .ok (.iload_n 2, 1) := by decide +kernel
theorem dX8_readArea_149 : decode cX8_readArea 149 = .ok (.iconst 1, 1) := by decide +kernel
theorem dX8_readArea_150 : decode cX8_readArea 150 = .ok (.iadd, 1) := by decide +kernel
theorem dX8_readArea_151 : decode cX8_readArea 151 = .ok (.iaload, 1) := by decide +kernel
theorem dX8_readArea_152 : decode cX8_readArea 152 = .ok (.aload_n 0, 1) := by decide +kernel
theorem dX8_readArea_153 : decode cX8_readArea 153 = .ok (.getfield 32, 3) := by decide +kernel
theorem dX8_readArea_156 : decode cX8_readArea 156 = .ok (.iload_n 2, 1) := by decide +kernel
theorem dX8_readArea_157 : decode cX8_readArea 157 = .ok (.iconst 3, 1) := by decide +kernel
theorem dX8_readArea_158 : decode cX8_readArea 158 = .ok (.iadd, 1) := by decide +kernel
theorem dX8_readArea_159 : decode cX8_readArea 159 = .ok (.iaload, 1) := by decide +kernel
theorem dX8_readArea_160 : decode cX8_readArea 160 = .ok (.iadd, 1) := by decide +kernel
theorem dX8_readArea_161 : decode cX8_readArea 161 = .ok (.bipush 14, 2) := by decide +kernel
theorem dX8_readArea_163 : decode cX8_readArea 163 = .ok (.if_icmp .le 8, 3) := by decide +kernel
theorem dX8_readArea_166 : decode cX8_readArea 166 = .ok (.aload_n 0, 1) := by decide +kernel
theorem dX8_readArea_167 : decode cX8_readArea 167 = .ok (.iload_n 1, 1) := by decide +kernel
theorem dX8_readArea_168 : decode cX8_readArea 168 = .ok (.invokevirtual 176, 3) := by decide +kernel
theorem dX8_readArea_171 : decode cX8_readArea 171 = .ok (.aload_n 0, 1) := by decide +kernel
theorem dX8_readArea_172 : decode cX8_readArea 172 = .ok (.dup, 1) := by decide +kernel
theorem dX8_readArea_173 : decode cX8_readArea 173 = .ok (.getfield 186, 3) := by decide +kernel
theorem dX8_readArea_176 : decode cX8_readArea 176 = .ok (.iconst 1, 1) := by decide +kernel
theorem dX8_readArea_177 : decode cX8_readArea 177 = .ok (.iadd, 1) := by decide +kernel
theorem dX8_readArea_178 : decode cX8_readArea 178 = .ok (.putfield 186, 3) := by decide +kernel
theorem dX8_readArea_181 : decode cX8_readArea 181 = .ok (.goto (-176), 3) := by decide +kernel
theorem dX8_readArea_184 : decode cX8_readArea 184 = .ok (.return_, 1) := by decide +kernel
theorem dX8_putArea_0 : decode cX8_putArea 0 = .ok (.aload_n 0, 1) := by decide +kernel
theorem dX8_putArea_1 : decode cX8_putArea 1 = .ok (.getfield 13, 3) := by decide +kernel
theorem dX8_putArea_4 : decode cX8_putArea 4 = .ok (.iload_n 1, 1) := by decide +kernel
theorem dX8_putArea_5 : decode cX8_putArea 5 = .ok (.iconst 2, 1) := by decide +kernel
theorem dX8_putArea_6 : decode cX8_putArea 6 = .ok (.iadd, 1) := by decide +kernel
theorem dX8_putArea_7 : decode cX8_putArea 7 = .ok (.aload_n 0, 1) := by decide +kernel
theorem dX8_putArea_8 : decode cX8_putArea 8 = .ok (.getfield 186, 3) := by decide +kernel
theorem dX8_putArea_11 : decode cX8_putArea 11 = .ok (.iastore, 1) := by decide +kernel
theorem dX8_putArea_12 : decode cX8_putArea 12 = .ok (.iconst 0, 1) := by decide +kernel
theorem dX8_putArea_13 : decode cX8_putArea 13 = .ok (.istore_n 2, 1) := by decide +kernel
theorem dX8_putArea_14 : decode cX8_putArea 14 = .ok (.iload_n 2, 1) := by decide +kernel
theorem dX8_putArea_15 : decode cX8_putArea 15 = .ok (.bipush 12, 2) := by decide +kernel
theorem dX8_putArea_17 : decode cX8_putArea 17 = .ok (.if_icmp .ge 39, 3) := by decide +kernel
theorem dX8_putArea_20 : decode cX8_putArea 20 = .ok (.aload_n 0, 1) := by decide +kernel
theorem dX8_putArea_21 : decode cX8_putArea 21 = .ok (.getfield 13, 3) := by decide +kernel
theorem dX8_putArea_24 : decode cX8_putArea 24 = .ok (.iload_n 1, 1) := by decide +kernel
theorem dX8_putArea_25 : decode cX8_putArea 25 = .ok (.iconst 3, 1) := by decide +kernel
theorem dX8_putArea_26 : decode cX8_putArea 26 = .ok (.iadd, 1) := by decide +kernel
theorem dX8_putArea_27 : decode cX8_putArea 27 = .ok (.iload_n 2, 1) := by decide +kernel
theorem dX8_putArea_28 : decode cX8_putArea 28 = .ok (.iadd, 1) := by decide +kernel
theorem dX8_putArea_29 : decode cX8_putArea 29 = .ok (.iload_n 2, 1) := by decide +kernel
theorem dX8_putArea_30 : decode cX8_putArea 30 = .ok (.iconst 4, 1) := by decide +kernel
theorem dX8_putArea_31 : decode cX8_putArea 31 = .ok (.aload_n 0, 1) := by decide +kernel
theorem dX8_putArea_32 : decode cX8_putArea 32 = .ok (.getfield 186, 3) := by decide +kernel
theorem dX8_putArea_35 : decode cX8_putArea 35 = .ok (.imul, 1) := by decide +kernel
theorem dX8_putArea_36 : decode cX8_putArea 36 = .ok (.if_icmp .ge 12, 3) := by decide +kernel
theorem dX8_putArea_39 : decode cX8_putArea 39 = .ok (.aload_n 0, 1) := by decide +kernel
theorem dX8_putArea_40 : decode cX8_putArea 40 = .ok (.getfield 32, 3) := by decide +kernel
theorem dX8_putArea_43 : decode cX8_putArea 43 = .ok (.iload_n 2, 1) := by decide +kernel
theorem dX8_putArea_44 : decode cX8_putArea 44 = .ok (.iaload, 1) := by decide +kernel
theorem dX8_putArea_45 : decode cX8_putArea 45 = .ok (.goto 4, 3) := by decide +kernel
theorem dX8_putArea_48 : decode cX8_putArea 48 = .ok (.iconst 0, 1) := by decide +kernel
theorem dX8_putArea_49 : decode cX8_putArea 49 = .ok (.iastore, 1) := by decide +kernel
theorem dX8_putArea_50 : decode cX8_putArea 50 = .ok (.iinc 2 1, 3) := by decide +kernel
theorem dX8_putArea_53 : decode cX8_putArea 53 = .ok (.goto (-39), 3) := by decide +kernel
theorem dX8_putArea_56 : decode cX8_putArea 56 = .ok (.return_, 1) := by decide +kernel
theorem dX8_isShared_0 : decode cX8_isShared 0 = .ok (.iconst 0, 1) := by decide +kernel
theorem dX8_isShared_1 : decode cX8_isShared 1 = .ok (.istore_n 2, 1) := by decide +kernel
theorem dX8_isShared_2 : decode cX8_isShared 2 = .ok (.iconst 0, 1) := by decide +kernel
theorem dX8_isShared_3 : decode cX8_isShared 3 = .ok (.istore_n 3, 1) := by decide +kernel
theorem dX8_isShared_4 : decode cX8_isShared 4 = .ok (.iload_n 3, 1) := by decide +kernel
theorem dX8_isShared_5 : decode cX8_isShared 5 = .ok (.sipush 280, 3) := by decide +kernel
theorem dX8_isShared_8 : decode cX8_isShared 8 = .ok (.if_icmp .ge 61, 3) := by decide +kernel
theorem dX8_isShared_11 : decode cX8_isShared 11 = .ok (.aload_n 0, 1) := by decide +kernel
theorem dX8_isShared_12 : decode cX8_isShared 12 = .ok (.iload_n 3, 1) := by decide +kernel
theorem dX8_isShared_13 : decode cX8_isShared 13 = .ok (.bipush 20, 2) := by decide +kernel
theorem dX8_isShared_15 : decode cX8_isShared 15 = .ok (.irem, 1) := by decide +kernel
theorem dX8_isShared_16 : decode cX8_isShared 16 = .ok (.iload_n 3, 1) := by decide +kernel
theorem dX8_isShared_17 : decode cX8_isShared 17 = .ok (.bipush 20, 2) := by decide +kernel
theorem dX8_isShared_19 : decode cX8_isShared 19 = .ok (.idiv, 1) := by decide +kernel
theorem dX8_isShared_20 : decode cX8_isShared 20 = .ok (.invokevirtual 192, 3) := by decide +kernel
theorem dX8_isShared_23 : decode cX8_isShared 23 = .ok (.istore 4, 2) := by decide +kernel
theorem dX8_isShared_25 : decode cX8_isShared 25 = .ok (.iload_n 2, 1) := by decide +kernel
theorem dX8_isShared_26 : decode cX8_isShared 26 = .ok (.ifCond .ne 31, 3) := by decide +kernel
theorem dX8_isShared_29 : decode cX8_isShared 29 = .ok (.iload 4, 2) := by decide +kernel
theorem dX8_isShared_31 : decode cX8_isShared 31 = .ok (.iconst (-1), 1) := by decide +kernel
theorem dX8_isShared_32 : decode cX8_isShared 32 = .ok (.if_icmp .eq 29, 3) := by decide +kernel
theorem dX8_isShared_35 : decode cX8_isShared 35 = .ok (.iload 4, 2) := by decide +kernel
theorem dX8_isShared_37 : decode cX8_isShared 37 = .ok (.iload_n 1, 1) := by decide +kernel
theorem dX8_isShared_38 : decode cX8_isShared 38 = .ok (.if_icmp .eq 23, 3) := by decide +kernel
theorem dX8_isShared_41 : decode cX8_isShared 41 = .ok (.aload_n 0, 1) := by decide +kernel
theorem dX8_isShared_42 : decode cX8_isShared 42 = .ok (.iload_n 1, 1) := by decide +kernel
theorem dX8_isShared_43 : decode cX8_isShared 43 = .ok (.iload_n 3, 1) := by decide +kernel
theorem dX8_isShared_44 : decode cX8_isShared 44 = .ok (.bipush 20, 2) := by decide +kernel
theorem dX8_isShared_46 : decode cX8_isShared 46 = .ok (.irem, 1) := by decide +kernel
theorem dX8_isShared_47 : decode cX8_isShared 47 = .ok (.iload_n 3, 1) := by decide +kernel
theorem dX8_isShared_48 : decode cX8_isShared 48 = .ok (.bipush 20, 2) := by decide +kernel
theorem dX8_isShared_50 : decode cX8_isShared 50 = .ok (.idiv, 1) := by decide +kernel
theorem dX8_isShared_51 : decode cX8_isShared 51 = .ok (.invokevirtual 67, 3) := by decide +kernel
theorem dX8_isShared_54 : decode cX8_isShared 54 = .ok (.ifCond .eq 7, 3) := by decide +kernel
theorem dX8_isShared_57 : decode cX8_isShared 57 = .ok (.iconst 1, 1) := by decide +kernel
theorem dX8_isShared_58 : decode cX8_isShared 58 = .ok (.goto 4, 3) := by decide +kernel
theorem dX8_isShared_61 : decode cX8_isShared 61 = .ok (.iconst 0, 1) := by decide +kernel
theorem dX8_isShared_62 : decode cX8_isShared 62 = .ok (.istore_n 2, 1) := by decide +kernel
theorem dX8_isShared_63 : decode cX8_isShared 63 = .ok (.iinc 3 1, 3) := by decide +kernel
theorem dX8_isShared_66 : decode cX8_isShared 66 = .ok (.goto (-62), 3) := by decide +kernel
theorem dX8_isShared_69 : decode cX8_isShared 69 = .ok (.iload_n 2, 1) := by decide +kernel
theorem dX8_isShared_70 : decode cX8_isShared 70 = .ok (.ireturn, 1) := by decide +kernel
theorem dX8_front_0 : decode cX8_front 0 = .ok (.aload_n 0, 1) := by decide +kernel
theorem dX8_front_1 : decode cX8_front 1 = .ok (.invokevirtual 172, 3) := by decide +kernel
theorem dX8_front_4 : decode cX8_front 4 = .ok (.istore_n 1, 1) := by decide +kernel
theorem dX8_front_5 : decode cX8_front 5 = .ok (.iload_n 1, 1) := by decide +kernel
theorem dX8_front_6 : decode cX8_front 6 = .ok (.bipush 78, 2) := by decide +kernel
theorem dX8_front_8 : decode cX8_front 8 = .ok (.if_icmp .ne 7, 3) := by decide +kernel
theorem dX8_front_11 : decode cX8_front 11 = .ok (.iconst 0, 1) := by decide +kernel
theorem dX8_front_12 : decode cX8_front 12 = .ok (.goto 34, 3) := by decide +kernel
theorem dX8_front_15 : decode cX8_front 15 = .ok (.iload_n 1, 1) := by decide +kernel
theorem dX8_front_16 : decode cX8_front 16 = .ok (.bipush 69, 2) := by decide +kernel
theorem dX8_front_18 : decode cX8_front 18 = .ok (.if_icmp .ne 7, 3) := by decide +kernel
theorem dX8_front_21 : decode cX8_front 21 = .ok (.iconst 1, 1) := by decide +kernel
theorem dX8_front_22 : decode cX8_front 22 = .ok (.goto 24, 3) := by decide +kernel
theorem dX8_front_25 : decode cX8_front 25 = .ok (.iload_n 1, 1) := by decide +kernel
theorem dX8_front_26 : decode cX8_front 26 = .ok (.bipush 83, 2) := by decide +kernel
theorem dX8_front_28 : decode cX8_front 28 = .ok (.if_icmp .ne 7, 3) := by decide +kernel
theorem dX8_front_31 : decode cX8_front 31 = .ok (.iconst 2, 1) := by decide +kernel
theorem dX8_front_32 : decode cX8_front 32 = .ok (.goto 14, 3) := by decide +kernel
theorem dX8_front_35 : decode cX8_front 35 = .ok (.iload_n 1, 1) := by decide +kernel
theorem dX8_front_36 : decode cX8_front 36 = .ok (.bipush 87, 2) := by decide +kernel
theorem dX8_front_38 : decode cX8_front 38 = .ok (.if_icmp .ne 7, 3) := by decide +kernel
theorem dX8_front_41 : decode cX8_front 41 = .ok (.iconst 3, 1) := by decide +kernel
theorem dX8_front_42 : decode cX8_front 42 = .ok (.goto 4, 3) := by decide +kernel
theorem dX8_front_45 : decode cX8_front 45 = .ok (.iconst (-1), 1) := by decide +kernel
theorem dX8_front_46 : decode cX8_front 46 = .ok (.istore_n 2, 1) := by decide +kernel
theorem dX8_front_47 : decode cX8_front 47 = .ok (.iload_n 2, 1) := by decide +kernel
theorem dX8_front_48 : decode cX8_front 48 = .ok (.iconst (-1), 1) := by decide +kernel
theorem dX8_front_49 : decode cX8_front 49 = .ok (.if_icmp .ne 14, 3) := by decide +kernel
theorem dX8_front_52 : decode cX8_front 52 = .ok (.aload_n 0, 1) := by decide +kernel
theorem dX8_front_53 : decode cX8_front 53 = .ok (.aload_n 0, 1) := by decide +kernel
theorem dX8_front_54 : decode cX8_front 54 = .ok (.getfield 166, 3) := by decide +kernel
theorem dX8_front_57 : decode cX8_front 57 = .ok (.invokevirtual 176, 3) := by decide +kernel
theorem dX8_front_60 : decode cX8_front 60 = .ok (.goto 13, 3) := by decide +kernel
theorem dX8_front_63 : decode cX8_front 63 = .ok (.aload_n 0, 1) := by decide +kernel
theorem dX8_front_64 : decode cX8_front 64 = .ok (.dup, 1) := by decide +kernel
theorem dX8_front_65 : decode cX8_front 65 = .ok (.getfield 166, 3) := by decide +kernel
theorem dX8_front_68 : decode cX8_front 68 = .ok (.iconst 1, 1) := by decide +kernel
theorem dX8_front_69 : decode cX8_front 69 = .ok (.iadd, 1) := by decide +kernel
theorem dX8_front_70 : decode cX8_front 70 = .ok (.putfield 166, 3) := by decide +kernel
theorem dX8_front_73 : decode cX8_front 73 = .ok (.iload_n 2, 1) := by decide +kernel
theorem dX8_front_74 : decode cX8_front 74 = .ok (.ireturn, 1) := by decide +kernel
theorem dX8_readLot_0 : decode cX8_readLot 0 = .ok (.aload_n 0, 1) := by decide +kernel
theorem dX8_readLot_1 : decode cX8_readLot 1 = .ok (.iconst 0, 1) := by decide +kernel
theorem dX8_readLot_2 : decode cX8_readLot 2 = .ok (.iconst 3, 1) := by decide +kernel
theorem dX8_readLot_3 : decode cX8_readLot 3 = .ok (.invokevirtual 183, 3) := by decide +kernel
theorem dX8_readLot_6 : decode cX8_readLot 6 = .ok (.istore_n 1, 1) := by decide +kernel
theorem dX8_readLot_7 : decode cX8_readLot 7 = .ok (.aload_n 0, 1) := by decide +kernel
theorem dX8_readLot_8 : decode cX8_readLot 8 = .ok (.getfield 29, 3) := by decide +kernel
theorem dX8_readLot_11 : decode cX8_readLot 11 = .ok (.iconst (-1), 1) := by decide +kernel
theorem dX8_readLot_12 : decode cX8_readLot 12 = .ok (.if_icmp .ne 10, 3) := by decide +kernel
theorem dX8_readLot_15 : decode cX8_readLot 15 = .ok (.aload_n 0, 1) := by decide +kernel
theorem dX8_readLot_16 : decode cX8_readLot 16 = .ok (.invokevirtual 195, 3) := by decide +kernel
theorem dX8_readLot_19 : decode cX8_readLot 19 = .ok (.goto 4, 3) := by decide +kernel
theorem dX8_readLot_22 : decode cX8_readLot 22 = .ok (.iconst 0, 1) := by decide +kernel
theorem dX8_readLot_23 : decode cX8_readLot 23 = .ok (.istore_n 2, 1) := by decide +kernel
theorem dX8_readLot_24 : decode cX8_readLot 24 = .ok (.aload_n 0, 1) := by decide +kernel
theorem dX8_readLot_25 : decode cX8_readLot 25 = .ok (.invokevirtual 198, 3) := by decide +kernel
theorem dX8_readLot_28 : decode cX8_readLot 28 = .ok (.aload_n 0, 1) := by decide +kernel
theorem dX8_readLot_29 : decode cX8_readLot 29 = .ok (.getfield 166, 3) := by decide +kernel
theorem dX8_readLot_32 : decode cX8_readLot 32 = .ok (.istore_n 3, 1) := by decide +kernel
theorem dX8_readLot_33 : decode cX8_readLot 33 = .ok (.aload_n 0, 1) := by decide +kernel
theorem dX8_readLot_34 : decode cX8_readLot 34 = .ok (.bipush 59, 2) := by decide +kernel
theorem dX8_readLot_36 : decode cX8_readLot 36 = .ok (.invokevirtual 201, 3) := by decide +kernel
theorem dX8_readLot_39 : decode cX8_readLot 39 = .ok (.aload_n 0, 1) := by decide +kernel
theorem dX8_readLot_40 : decode cX8_readLot 40 = .ok (.getfield 29, 3) := by decide +kernel
theorem dX8_readLot_43 : decode cX8_readLot 43 = .ok (.iconst (-1), 1) := by decide +kernel
theorem dX8_readLot_44 : decode cX8_readLot 44 = .ok (.if_icmp .eq 4, 3) := by decide +kernel
theorem dX8_readLot_47 : decode cX8_readLot 47 = .ok (.return_, 1) := by decide +kernel
theorem dX8_readLot_48 : decode cX8_readLot 48 = .ok (.aload_n 0, 1) := by decide +kernel
theorem dX8_readLot_49 : decode cX8_readLot 49 = .ok (.getfield 13, 3) := by decide +kernel
theorem dX8_readLot_52 : decode cX8_readLot 52 = .ok (.iconst 1, 1) := by decide +kernel
theorem dX8_readLot_53 : decode cX8_readLot 53 = .ok (.iaload, 1) := by decide +kernel
theorem dX8_readLot_54 : decode cX8_readLot 54 = .ok (.istore 4, 2) := by decide +kernel
theorem dX8_readLot_56 : decode cX8_readLot 56 = .ok (.bipush 32, 2) := by decide +kernel
theorem dX8_readLot_58 : decode cX8_readLot 58 = .ok (.bipush 16, 2) := by decide +kernel
theorem dX8_readLot_60 : decode cX8_readLot 60 = .ok (.iload 4, 2) := by decide +kernel
theorem dX8_readLot_62 : decode cX8_readLot 62 = .ok (.imul, 1) := by decide +kernel
theorem dX8_readLot_63 : decode cX8_readLot 63 = .ok (.iadd, 1) := by decide +kernel
theorem dX8_readLot_64 : decode cX8_readLot 64 = .ok (.istore 5, 2) := by decide +kernel
theorem dX8_readLot_66 : decode cX8_readLot 66 = .ok (.aload_n 0, 1) := by decide +kernel
theorem dX8_readLot_67 : decode cX8_readLot 67 = .ok (.getfield 13, 3) := by decide +kernel
theorem dX8_readLot_70 : decode cX8_readLot 70 = .ok (.iconst 1, 1) := by decide +kernel
theorem dX8_readLot_71 : decode cX8_readLot 71 = .ok (.dup2, 1) := by decide +kernel
theorem dX8_readLot_72 : decode cX8_readLot 72 = .ok (.iaload, 1) := by decide +kernel
theorem dX8_readLot_73 : decode cX8_readLot 73 = .ok (.iconst 1, 1) := by decide +kernel
theorem dX8_readLot_74 : decode cX8_readLot 74 = .ok (.iadd, 1) := by decide +kernel
theorem dX8_readLot_75 : decode cX8_readLot 75 = .ok (.iastore, 1) := by decide +kernel
theorem dX8_readLot_76 : decode cX8_readLot 76 = .ok (.aload_n 0, 1) := by decide +kernel
theorem dX8_readLot_77 : decode cX8_readLot 77 = .ok (.getfield 13, 3) := by decide +kernel
theorem dX8_readLot_80 : decode cX8_readLot 80 = .ok (.iload 5, 2) := by decide +kernel
theorem dX8_readLot_82 : decode cX8_readLot 82 = .ok (.iload_n 1, 1) := by decide +kernel
theorem dX8_readLot_83 : decode cX8_readLot 83 = .ok (.iastore, 1) := by decide +kernel
theorem dX8_readLot_84 : decode cX8_readLot 84 = .ok (.aload_n 0, 1) := by decide +kernel
theorem dX8_readLot_85 : decode cX8_readLot 85 = .ok (.getfield 13, 3) := by decide +kernel
theorem dX8_readLot_88 : decode cX8_readLot 88 = .ok (.iload 5, 2) := by decide +kernel
theorem dX8_readLot_90 : decode cX8_readLot 90 = .ok (.iconst 1, 1) := by decide +kernel
theorem dX8_readLot_91 : decode cX8_readLot 91 = .ok (.iadd, 1) := by decide +kernel
theorem dX8_readLot_92 : decode cX8_readLot 92 = .ok (.iload_n 2, 1) := by decide +kernel
theorem dX8_readLot_93 : decode cX8_readLot 93 = .ok (.iastore, 1) := by decide +kernel
theorem dX8_readLot_94 : decode cX8_readLot 94 = .ok (.aload_n 0, 1) := by decide +kernel
theorem dX8_readLot_95 : decode cX8_readLot 95 = .ok (.iload 5, 2) := by decide +kernel
theorem dX8_readLot_97 : decode cX8_readLot 97 = .ok (.invokevirtual 205, 3) := by decide +kernel
theorem dX8_readLot_100 : decode cX8_readLot 100 = .ok (.aload_n 0, 1) := by decide +kernel
theorem dX8_readLot_101 : decode cX8_readLot 101 = .ok (.iload 4, 2) := by decide +kernel
theorem dX8_readLot_103 : decode cX8_readLot 103 = .ok (.invokevirtual 208, 3) := by decide +kernel
theorem dX8_readLot_106 : decode cX8_readLot 106 = .ok (.ifCond .eq 8, 3) := by decide +kernel
theorem dX8_readLot_109 : decode cX8_readLot 109 = .ok (.aload_n 0, 1) := by decide +kernel
theorem dX8_readLot_110 : decode cX8_readLot 110 = .ok (.iload_n 3, 1) := by decide +kernel
theorem dX8_readLot_111 : decode cX8_readLot 111 = .ok (.invokevirtual 176, 3) := by decide +kernel
theorem dX8_readLot_114 : decode cX8_readLot 114 = .ok (.return_, 1) := by decide +kernel
theorem dX8_readPermit_0 : decode cX8_readPermit 0 = .ok (.aload_n 0, 1) := by decide +kernel
theorem dX8_readPermit_1 : decode cX8_readPermit 1 = .ok (.aload_n 0, 1) := by decide +kernel
theorem dX8_readPermit_2 : decode cX8_readPermit 2 = .ok (.getfield 13, 3) := by decide +kernel
theorem dX8_readPermit_5 : decode cX8_readPermit 5 = .ok (.iconst 1, 1) := by decide +kernel
theorem dX8_readPermit_6 : decode cX8_readPermit 6 = .ok (.iaload, 1) := by decide +kernel
theorem dX8_readPermit_7 : decode cX8_readPermit 7 = .ok (.invokevirtual 211, 3) := by decide +kernel
theorem dX8_readPermit_10 : decode cX8_readPermit 10 = .ok (.istore_n 1, 1) := by decide +kernel
theorem dX8_readPermit_11 : decode cX8_readPermit 11 = .ok (.aload_n 0, 1) := by decide +kernel
theorem dX8_readPermit_12 : decode cX8_readPermit 12 = .ok (.iconst 0, 1) := by decide +kernel
theorem dX8_readPermit_13 : decode cX8_readPermit 13 = .ok (.iconst 5, 1) := by decide +kernel
theorem dX8_readPermit_14 : decode cX8_readPermit 14 = .ok (.invokevirtual 183, 3) := by decide +kernel
theorem dX8_readPermit_17 : decode cX8_readPermit 17 = .ok (.istore_n 2, 1) := by decide +kernel
theorem dX8_readPermit_18 : decode cX8_readPermit 18 = .ok (.aload_n 0, 1) := by decide +kernel
theorem dX8_readPermit_19 : decode cX8_readPermit 19 = .ok (.iconst 1, 1) := by decide +kernel
theorem dX8_readPermit_20 : decode cX8_readPermit 20 = .ok (.bipush 9, 2) := by decide +kernel
theorem dX8_readPermit_22 : decode cX8_readPermit 22 = .ok (.invokevirtual 183, 3) := by decide +kernel
theorem dX8_readPermit_25 : decode cX8_readPermit 25 = .ok (.istore_n 3, 1) := by decide +kernel
theorem dX8_readPermit_26 : decode cX8_readPermit 26 = .ok (.aload_n 0, 1) := by decide +kernel
theorem dX8_readPermit_27 : decode cX8_readPermit 27 = .ok (.iconst 0, 1) := by decide +kernel
theorem dX8_readPermit_28 : decode cX8_readPermit 28 = .ok (.bipush 9, 2) := by decide +kernel
theorem dX8_readPermit_30 : decode cX8_readPermit 30 = .ok (.invokevirtual 183, 3) := by decide +kernel
theorem dX8_readPermit_33 : decode cX8_readPermit 33 = .ok (.istore 4, 2) := by decide +kernel
theorem dX8_readPermit_35 : decode cX8_readPermit 35 = .ok (.aload_n 0, 1) := by decide +kernel
theorem dX8_readPermit_36 : decode cX8_readPermit 36 = .ok (.invokevirtual 198, 3) := by decide +kernel
theorem dX8_readPermit_39 : decode cX8_readPermit 39 = .ok (.aload_n 0, 1) := by decide +kernel
theorem dX8_readPermit_40 : decode cX8_readPermit 40 = .ok (.bipush 59, 2) := by decide +kernel
theorem dX8_readPermit_42 : decode cX8_readPermit 42 = .ok (.invokevirtual 201, 3) := by decide +kernel
theorem dX8_readPermit_45 : decode cX8_readPermit 45 = .ok (.aload_n 0, 1) := by decide +kernel
theorem dX8_readPermit_46 : decode cX8_readPermit 46 = .ok (.getfield 29, 3) := by decide +kernel
theorem dX8_readPermit_49 : decode cX8_readPermit 49 = .ok (.iconst (-1), 1) := by decide +kernel
theorem dX8_readPermit_50 : decode cX8_readPermit 50 = .ok (.if_icmp .eq 4, 3) := by decide +kernel
theorem dX8_readPermit_53 : decode cX8_readPermit 53 = .ok (.return_, 1) := by decide +kernel
theorem dX8_readPermit_54 : decode cX8_readPermit 54 = .ok (.aload_n 0, 1) := by decide +kernel
theorem dX8_readPermit_55 : decode cX8_readPermit 55 = .ok (.getfield 13, 3) := by decide +kernel
theorem dX8_readPermit_58 : decode cX8_readPermit 58 = .ok (.iconst 2, 1) := by decide +kernel
theorem dX8_readPermit_59 : decode cX8_readPermit 59 = .ok (.iaload, 1) := by decide +kernel
theorem dX8_readPermit_60 : decode cX8_readPermit 60 = .ok (.istore 5, 2) := by decide +kernel
theorem dX8_readPermit_62 : decode cX8_readPermit 62 = .ok (.aload_n 0, 1) := by decide +kernel
theorem dX8_readPermit_63 : decode cX8_readPermit 63 = .ok (.getfield 13, 3) := by decide +kernel
theorem dX8_readPermit_66 : decode cX8_readPermit 66 = .ok (.iconst 2, 1) := by decide +kernel
theorem dX8_readPermit_67 : decode cX8_readPermit 67 = .ok (.dup2, 1) := by decide +kernel
theorem dX8_readPermit_68 : decode cX8_readPermit 68 = .ok (.iaload, 1) := by decide +kernel
theorem dX8_readPermit_69 : decode cX8_readPermit 69 = .ok (.iconst 1, 1) := by decide +kernel
theorem dX8_readPermit_70 : decode cX8_readPermit 70 = .ok (.iadd, 1) := by decide +kernel
theorem dX8_readPermit_71 : decode cX8_readPermit 71 = .ok (.iastore, 1) := by decide +kernel
theorem dX8_readPermit_72 : decode cX8_readPermit 72 = .ok (.iconst 0, 1) := by decide +kernel
theorem dX8_readPermit_73 : decode cX8_readPermit 73 = .ok (.istore 6, 2) := by decide +kernel
theorem dX8_readPermit_75 : decode cX8_readPermit 75 = .ok (.iload 6, 2) := by decide +kernel
theorem dX8_readPermit_77 : decode cX8_readPermit 77 = .ok (.bipush 46, 2) := by decide +kernel
theorem dX8_readPermit_79 : decode cX8_readPermit 79 = .ok (.if_icmp .ge 18, 3) := by decide +kernel
theorem dX8_readPermit_82 : decode cX8_readPermit 82 = .ok (.aload_n 0, 1) := by decide +kernel
theorem dX8_readPermit_83 : decode cX8_readPermit 83 = .ok (.iload 5, 2) := by decide +kernel
theorem dX8_readPermit_85 : decode cX8_readPermit 85 = .ok (.iload 6, 2) := by decide +kernel
theorem dX8_readPermit_87 : decode cX8_readPermit 87 = .ok (.iconst 0, 1) := by decide +kernel
theorem dX8_readPermit_88 : decode cX8_readPermit 88 = .ok (.invokevirtual 214, 3) := by decide +kernel
theorem dX8_readPermit_91 : decode cX8_readPermit 91 = .ok (.iinc 6 1, 3) := by decide +kernel
theorem dX8_readPermit_94 : decode cX8_readPermit 94 = .ok (.goto (-19), 3) := by decide +kernel
theorem dX8_readPermit_97 : decode cX8_readPermit 97 = .ok (.aload_n 0, 1) := by decide +kernel
theorem dX8_readPermit_98 : decode cX8_readPermit 98 = .ok (.iload 5, 2) := by decide +kernel
theorem dX8_readPermit_100 : decode cX8_readPermit 100 = .ok (.iconst 0, 1) := by decide +kernel
theorem dX8_readPermit_101 : decode cX8_readPermit 101 = .ok (.iload_n 1, 1) := by decide +kernel
theorem dX8_readPermit_102 : decode cX8_readPermit 102 = .ok (.invokevirtual 214, 3) := by decide +kernel
theorem dX8_readPermit_105 : decode cX8_readPermit 105 = .ok (.aload_n 0, 1) := by decide +kernel
theorem dX8_readPermit_106 : decode cX8_readPermit 106 = .ok (.iload 5, 2) := by decide +kernel
theorem dX8_readPermit_108 : decode cX8_readPermit 108 = .ok (.iconst 1, 1) := by decide +kernel
theorem dX8_readPermit_109 : decode cX8_readPermit 109 = .ok (.iload_n 2, 1) := by decide +kernel
theorem dX8_readPermit_110 : decode cX8_readPermit 110 = .ok (.invokevirtual 214, 3) := by decide +kernel
theorem dX8_readPermit_113 : decode cX8_readPermit 113 = .ok (.aload_n 0, 1) := by decide +kernel
theorem dX8_readPermit_114 : decode cX8_readPermit 114 = .ok (.iload 5, 2) := by decide +kernel
theorem dX8_readPermit_116 : decode cX8_readPermit 116 = .ok (.bipush 17, 2) := by decide +kernel
theorem dX8_readPermit_118 : decode cX8_readPermit 118 = .ok (.iload_n 3, 1) := by decide +kernel
theorem dX8_readPermit_119 : decode cX8_readPermit 119 = .ok (.invokevirtual 214, 3) := by decide +kernel
theorem dX8_readPermit_122 : decode cX8_readPermit 122 = .ok (.aload_n 0, 1) := by decide +kernel
theorem dX8_readPermit_123 : decode cX8_readPermit 123 = .ok (.iload 5, 2) := by decide +kernel
theorem dX8_readPermit_125 : decode cX8_readPermit 125 = .ok (.bipush 18, 2) := by decide +kernel
theorem dX8_readPermit_127 : decode cX8_readPermit 127 = .ok (.iload 4, 2) := by decide +kernel
theorem dX8_readPermit_129 : decode cX8_readPermit 129 = .ok (.invokevirtual 214, 3) := by decide +kernel
theorem dX8_readPermit_132 : decode cX8_readPermit 132 = .ok (.aload_n 0, 1) := by decide +kernel
theorem dX8_readPermit_133 : decode cX8_readPermit 133 = .ok (.iload 5, 2) := by decide +kernel
theorem dX8_readPermit_135 : decode cX8_readPermit 135 = .ok (.bipush 22, 2) := by decide +kernel
theorem dX8_readPermit_137 : decode cX8_readPermit 137 = .ok (.iconst (-1), 1) := by decide +kernel
theorem dX8_readPermit_138 : decode cX8_readPermit 138 = .ok (.invokevirtual 214, 3) := by decide +kernel
theorem dX8_readPermit_141 : decode cX8_readPermit 141 = .ok (.aload_n 0, 1) := by decide +kernel
theorem dX8_readPermit_142 : decode cX8_readPermit 142 = .ok (.iload 5, 2) := by decide +kernel
theorem dX8_readPermit_144 : decode cX8_readPermit 144 = .ok (.bipush 27, 2) := by decide +kernel
theorem dX8_readPermit_146 : decode cX8_readPermit 146 = .ok (.iconst (-1), 1) := by decide +kernel
theorem dX8_readPermit_147 : decode cX8_readPermit 147 = .ok (.invokevirtual 214, 3) := by decide +kernel
theorem dX8_readPermit_150 : decode cX8_readPermit 150 = .ok (.aload_n 0, 1) := by decide +kernel
theorem dX8_readPermit_151 : decode cX8_readPermit 151 = .ok (.sipush 160, 3) := by decide +kernel
theorem dX8_readPermit_154 : decode cX8_readPermit 154 = .ok (.bipush 46, 2) := by decide +kernel
theorem dX8_readPermit_156 : decode cX8_readPermit 156 = .ok (.iload 5, 2) := by decide +kernel
theorem dX8_readPermit_158 : decode cX8_readPermit 158 = .ok (.imul, 1) := by decide +kernel
theorem dX8_readPermit_159 : decode cX8_readPermit 159 = .ok (.iadd, 1) := by decide +kernel
theorem dX8_readPermit_160 : decode cX8_readPermit 160 = .ok (.invokevirtual 205, 3) := by decide +kernel
theorem dX8_readPermit_163 : decode cX8_readPermit 163 = .ok (.aload_n 0, 1) := by decide +kernel
theorem dX8_readPermit_164 : decode cX8_readPermit 164 = .ok (.iload 5, 2) := by decide +kernel
theorem dX8_readPermit_166 : decode cX8_readPermit 166 = .ok (.bipush 25, 2) := by decide +kernel
theorem dX8_readPermit_168 : decode cX8_readPermit 168 = .ok (.bipush 20, 2) := by decide +kernel
theorem dX8_readPermit_170 : decode cX8_readPermit 170 = .ok (.aload_n 0, 1) := by decide +kernel
theorem dX8_readPermit_171 : decode cX8_readPermit 171 = .ok (.iload 5, 2) := by decide +kernel
theorem dX8_readPermit_173 : decode cX8_readPermit 173 = .ok (.invokevirtual 109, 3) := by decide +kernel
theorem dX8_readPermit_176 : decode cX8_readPermit 176 = .ok (.iadd, 1) := by decide +kernel
theorem dX8_readPermit_177 : decode cX8_readPermit 177 = .ok (.invokevirtual 214, 3) := by decide +kernel
theorem dX8_readPermit_180 : decode cX8_readPermit 180 = .ok (.return_, 1) := by decide +kernel
theorem dX8_readVariance_0 : decode cX8_readVariance 0 = .ok (.aload_n 0, 1) := by decide +kernel
theorem dX8_readVariance_1 : decode cX8_readVariance 1 = .ok (.aload_n 0, 1) := by decide +kernel
theorem dX8_readVariance_2 : decode cX8_readVariance 2 = .ok (.getfield 13, 3) := by decide +kernel
theorem dX8_readVariance_5 : decode cX8_readVariance 5 = .ok (.iconst 1, 1) := by decide +kernel
theorem dX8_readVariance_6 : decode cX8_readVariance 6 = .ok (.iaload, 1) := by decide +kernel
theorem dX8_readVariance_7 : decode cX8_readVariance 7 = .ok (.invokevirtual 211, 3) := by decide +kernel
theorem dX8_readVariance_10 : decode cX8_readVariance 10 = .ok (.istore_n 1, 1) := by decide +kernel
theorem dX8_readVariance_11 : decode cX8_readVariance 11 = .ok (.aload_n 0, 1) := by decide +kernel
theorem dX8_readVariance_12 : decode cX8_readVariance 12 = .ok (.iconst 2, 1) := by decide +kernel
theorem dX8_readVariance_13 : decode cX8_readVariance 13 = .ok (.bipush 8, 2) := by decide +kernel
theorem dX8_readVariance_15 : decode cX8_readVariance 15 = .ok (.invokevirtual 183, 3) := by decide +kernel
theorem dX8_readVariance_18 : decode cX8_readVariance 18 = .ok (.istore_n 2, 1) := by decide +kernel
theorem dX8_readVariance_19 : decode cX8_readVariance 19 = .ok (.aload_n 0, 1) := by decide +kernel
theorem dX8_readVariance_20 : decode cX8_readVariance 20 = .ok (.iconst 1, 1) := by decide +kernel
theorem dX8_readVariance_21 : decode cX8_readVariance 21 = .ok (.bipush 99, 2) := by decide +kernel
theorem dX8_readVariance_23 : decode cX8_readVariance 23 = .ok (.invokevirtual 218, 3) := by decide +kernel
theorem dX8_readVariance_26 : decode cX8_readVariance 26 = .ok (.istore_n 3, 1) := by decide +kernel
theorem dX8_readVariance_27 : decode cX8_readVariance 27 = .ok (.aload_n 0, 1) := by decide +kernel
theorem dX8_readVariance_28 : decode cX8_readVariance 28 = .ok (.bipush 44, 2) := by decide +kernel
theorem dX8_readVariance_30 : decode cX8_readVariance 30 = .ok (.invokevirtual 201, 3) := by decide +kernel
theorem dX8_readVariance_33 : decode cX8_readVariance 33 = .ok (.aload_n 0, 1) := by decide +kernel
theorem dX8_readVariance_34 : decode cX8_readVariance 34 = .ok (.iconst 0, 1) := by decide +kernel
theorem dX8_readVariance_35 : decode cX8_readVariance 35 = .ok (.bipush 99, 2) := by decide +kernel
theorem dX8_readVariance_37 : decode cX8_readVariance 37 = .ok (.invokevirtual 218, 3) := by decide +kernel
theorem dX8_readVariance_40 : decode cX8_readVariance 40 = .ok (.istore 4, 2) := by decide +kernel
theorem dX8_readVariance_42 : decode cX8_readVariance 42 = .ok (.aload_n 0, 1) := by decide +kernel
theorem dX8_readVariance_43 : decode cX8_readVariance 43 = .ok (.bipush 59, 2) := by decide +kernel
theorem dX8_readVariance_45 : decode cX8_readVariance 45 = .ok (.invokevirtual 201, 3) := by decide +kernel
theorem dX8_readVariance_48 : decode cX8_readVariance 48 = .ok (.aload_n 0, 1) := by decide +kernel
theorem dX8_readVariance_49 : decode cX8_readVariance 49 = .ok (.getfield 29, 3) := by decide +kernel
theorem dX8_readVariance_52 : decode cX8_readVariance 52 = .ok (.iconst (-1), 1) := by decide +kernel
theorem dX8_readVariance_53 : decode cX8_readVariance 53 = .ok (.if_icmp .ne 73, 3) := by decide +kernel
theorem dX8_readVariance_56 : decode cX8_readVariance 56 = .ok (.sipush 620, 3) := by decide +kernel
theorem dX8_readVariance_59 : decode cX8_readVariance 59 = .ok (.iconst 4, 1) := by decide +kernel
theorem dX8_readVariance_60 : decode cX8_readVariance 60 = .ok (.aload_n 0, 1) := by decide +kernel
theorem dX8_readVariance_61 : decode cX8_readVariance 61 = .ok (.getfield 13, 3) := by decide +kernel
theorem dX8_readVariance_64 : decode cX8_readVariance 64 = .ok (.iconst 3, 1) := by decide +kernel
theorem dX8_readVariance_65 : decode cX8_readVariance 65 = .ok (.iaload, 1) := by decide +kernel
theorem dX8_readVariance_66 : decode cX8_readVariance 66 = .ok (.imul, 1) := by decide +kernel
theorem dX8_readVariance_67 : decode cX8_readVariance 67 = .ok (.iadd, 1) := by decide +kernel
theorem dX8_readVariance_68 : decode cX8_readVariance 68 = .ok (.istore 5, 2) := by decide +kernel
theorem dX8_readVariance_70 : decode cX8_readVariance 70 = .ok (.aload_n 0, 1) := by decide +kernel
theorem dX8_readVariance_71 : decode cX8_readVariance 71 = .ok (.getfield 13, 3) := by decide +kernel
theorem dX8_readVariance_74 : decode cX8_readVariance 74 = .ok (.iconst 3, 1) := by decide +kernel
theorem dX8_readVariance_75 : decode cX8_readVariance 75 = .ok (.dup2, 1) := by decide +kernel
theorem dX8_readVariance_76 : decode cX8_readVariance 76 = .ok (.iaload, 1) := by decide +kernel
theorem dX8_readVariance_77 : decode cX8_readVariance 77 = .ok (.iconst 1, 1) := by decide +kernel
theorem dX8_readVariance_78 : decode cX8_readVariance 78 = .ok (.iadd, 1) := by decide +kernel
theorem dX8_readVariance_79 : decode cX8_readVariance 79 = .ok (.iastore, 1) := by decide +kernel
theorem dX8_readVariance_80 : decode cX8_readVariance 80 = .ok (.aload_n 0, 1) := by decide +kernel
theorem dX8_readVariance_81 : decode cX8_readVariance 81 = .ok (.getfield 13, 3) := by decide +kernel
theorem dX8_readVariance_84 : decode cX8_readVariance 84 = .ok (.iload 5, 2) := by decide +kernel
theorem dX8_readVariance_86 : decode cX8_readVariance 86 = .ok (.iload_n 1, 1) := by decide +kernel
theorem dX8_readVariance_87 : decode cX8_readVariance 87 = .ok (.iastore, 1) := by decide +kernel
theorem dX8_readVariance_88 : decode cX8_readVariance 88 = .ok (.aload_n 0, 1) := by decide +kernel
theorem dX8_readVariance_89 : decode cX8_readVariance 89 = .ok (.getfield 13, 3) := by decide +kernel
theorem dX8_readVariance_92 : decode cX8_readVariance 92 = .ok (.iload 5, 2) := by decide +kernel
theorem dX8_readVariance_94 : decode cX8_readVariance 94 = .ok (.iconst 1, 1) := by decide +kernel
theorem dX8_readVariance_95 : decode cX8_readVariance 95 = .ok (.iadd, 1) := by decide +kernel
theorem dX8_readVariance_96 : decode cX8_readVariance 96 = .ok (.iload_n 2, 1) := by decide +kernel
theorem dX8_readVariance_97 : decode cX8_readVariance 97 = .ok (.iastore, 1) := by decide +kernel
theorem dX8_readVariance_98 : decode cX8_readVariance 98 = .ok (.aload_n 0, 1) := by decide +kernel
theorem dX8_readVariance_99 : decode cX8_readVariance 99 = .ok (.getfield 13, 3) := by decide +kernel
theorem dX8_readVariance_102 : decode cX8_readVariance 102 = .ok (.iload 5, 2) := by decide +kernel
theorem dX8_readVariance_104 : decode cX8_readVariance 104 = .ok (.iconst 2, 1) := by decide +kernel
theorem dX8_readVariance_105 : decode cX8_readVariance 105 = .ok (.iadd, 1) := by decide +kernel
theorem dX8_readVariance_106 : decode cX8_readVariance 106 = .ok (.iload_n 3, 1) := by decide +kernel
theorem dX8_readVariance_107 : decode cX8_readVariance 107 = .ok (.iastore, 1) := by decide +kernel
theorem dX8_readVariance_108 : decode cX8_readVariance 108 = .ok (.aload_n 0, 1) := by decide +kernel
theorem dX8_readVariance_109 : decode cX8_readVariance 109 = .ok (.getfield 13, 3) := by decide +kernel
theorem dX8_readVariance_112 : decode cX8_readVariance 112 = .ok (.iload 5, 2) := by decide +kernel
theorem dX8_readVariance_114 : decode cX8_readVariance 114 = .ok (.iconst 3, 1) := by decide +kernel
theorem dX8_readVariance_115 : decode cX8_readVariance 115 = .ok (.iadd, 1) := by decide +kernel
theorem dX8_readVariance_116 : decode cX8_readVariance 116 = .ok (.aload_n 0, 1) := by decide +kernel
theorem dX8_readVariance_117 : decode cX8_readVariance 117 = .ok (.getfield 13, 3) := by decide +kernel
theorem dX8_readVariance_120 : decode cX8_readVariance 120 = .ok (.iconst 0, 1) := by decide +kernel
theorem dX8_readVariance_121 : decode cX8_readVariance 121 = .ok (.iaload, 1) := by decide +kernel
theorem dX8_readVariance_122 : decode cX8_readVariance 122 = .ok (.iload 4, 2) := by decide +kernel
theorem dX8_readVariance_124 : decode cX8_readVariance 124 = .ok (.iadd, 1) := by decide +kernel
theorem dX8_readVariance_125 : decode cX8_readVariance 125 = .ok (.iastore, 1) := by decide +kernel
theorem dX8_readVariance_126 : decode cX8_readVariance 126 = .ok (.return_, 1) := by decide +kernel
theorem dX8_conditionMany_0 : decode cX8_conditionMany 0 = .ok (.aload_n 0, 1) := by decide +kernel
theorem dX8_conditionMany_1 : decode cX8_conditionMany 1 = .ok (.iload_n 1, 1) := by decide +kernel
theorem dX8_conditionMany_2 : decode cX8_conditionMany 2 = .ok (.bipush 45, 2) := by decide +kernel
theorem dX8_conditionMany_4 : decode cX8_conditionMany 4 = .ok (.invokevirtual 63, 3) := by decide +kernel
theorem dX8_conditionMany_7 : decode cX8_conditionMany 7 = .ok (.ireturn, 1) := by decide +kernel
theorem dX8_conditionPart_0 : decode cX8_conditionPart 0 = .ok (.aload_n 0, 1) := by decide +kernel
theorem dX8_conditionPart_1 : decode cX8_conditionPart 1 = .ok (.iload_n 1, 1) := by decide +kernel
theorem dX8_conditionPart_2 : decode cX8_conditionPart 2 = .ok (.bipush 29, 2) := by decide +kernel
theorem dX8_conditionPart_4 : decode cX8_conditionPart 4 = .ok (.iload_n 2, 1) := by decide +kernel
theorem dX8_conditionPart_5 : decode cX8_conditionPart 5 = .ok (.iadd, 1) := by decide +kernel
theorem dX8_conditionPart_6 : decode cX8_conditionPart 6 = .ok (.invokevirtual 63, 3) := by decide +kernel
theorem dX8_conditionPart_9 : decode cX8_conditionPart 9 = .ok (.istore 4, 2) := by decide +kernel
theorem dX8_conditionPart_11 : decode cX8_conditionPart 11 = .ok (.iload_n 3, 1) := by decide +kernel
theorem dX8_conditionPart_12 : decode cX8_conditionPart 12 = .ok (.ifCond .ne 12, 3) := by decide +kernel
theorem dX8_conditionPart_15 : decode cX8_conditionPart 15 = .ok (.iload 4, 2) := by decide +kernel
theorem dX8_conditionPart_17 : decode cX8_conditionPart 17 = .ok (.sipush 1000, 3) := by decide +kernel
theorem dX8_conditionPart_20 : decode cX8_conditionPart 20 = .ok (.idiv, 1) := by decide +kernel
theorem dX8_conditionPart_21 : decode cX8_conditionPart 21 = .ok (.goto 23, 3) := by decide +kernel
theorem dX8_conditionPart_24 : decode cX8_conditionPart 24 = .ok (.iload_n 3, 1) := by decide +kernel
theorem dX8_conditionPart_25 : decode cX8_conditionPart 25 = .ok (.iconst 1, 1) := by decide +kernel
theorem dX8_conditionPart_26 : decode cX8_conditionPart 26 = .ok (.if_icmp .ne 14, 3) := by decide +kernel
theorem dX8_conditionPart_29 : decode cX8_conditionPart 29 = .ok (.iload 4, 2) := by decide +kernel
theorem dX8_conditionPart_31 : decode cX8_conditionPart 31 = .ok (.iconst 2, 1) := by decide +kernel
theorem dX8_conditionPart_32 : decode cX8_conditionPart 32 = .ok (.idiv, 1) := by decide +kernel
theorem dX8_conditionPart_33 : decode cX8_conditionPart 33 = .ok (.sipush 500, 3) := by decide +kernel
theorem dX8_conditionPart_36 : decode cX8_conditionPart 36 = .ok (.irem, 1) := by decide +kernel
theorem dX8_conditionPart_37 : decode cX8_conditionPart 37 = .ok (.goto 7, 3) := by decide +kernel
theorem dX8_conditionPart_40 : decode cX8_conditionPart 40 = .ok (.iload 4, 2) := by decide +kernel
theorem dX8_conditionPart_42 : decode cX8_conditionPart 42 = .ok (.iconst 2, 1) := by decide +kernel
theorem dX8_conditionPart_43 : decode cX8_conditionPart 43 = .ok (.irem, 1) := by decide +kernel
theorem dX8_conditionPart_44 : decode cX8_conditionPart 44 = .ok (.ireturn, 1) := by decide +kernel
theorem dX8_putCondition_0 : decode cX8_putCondition 0 = .ok (.aload_n 0, 1) := by decide +kernel
theorem dX8_putCondition_1 : decode cX8_putCondition 1 = .ok (.iload_n 1, 1) := by decide +kernel
theorem dX8_putCondition_2 : decode cX8_putCondition 2 = .ok (.bipush 29, 2) := by decide +kernel
theorem dX8_putCondition_4 : decode cX8_putCondition 4 = .ok (.iload_n 2, 1) := by decide +kernel
theorem dX8_putCondition_5 : decode cX8_putCondition 5 = .ok (.iadd, 1) := by decide +kernel
theorem dX8_putCondition_6 : decode cX8_putCondition 6 = .ok (.sipush 1000, 3) := by decide +kernel
theorem dX8_putCondition_9 : decode cX8_putCondition 9 = .ok (.iload_n 3, 1) := by decide +kernel
theorem dX8_putCondition_10 : decode cX8_putCondition 10 = .ok (.imul, 1) := by decide +kernel
theorem dX8_putCondition_11 : decode cX8_putCondition 11 = .ok (.iconst 2, 1) := by decide +kernel
theorem dX8_putCondition_12 : decode cX8_putCondition 12 = .ok (.iload 4, 2) := by decide +kernel
theorem dX8_putCondition_14 : decode cX8_putCondition 14 = .ok (.imul, 1) := by decide +kernel
theorem dX8_putCondition_15 : decode cX8_putCondition 15 = .ok (.iadd, 1) := by decide +kernel
theorem dX8_putCondition_16 : decode cX8_putCondition 16 = .ok (.iload 5, 2) := by decide +kernel
theorem dX8_putCondition_18 : decode cX8_putCondition 18 = .ok (.ifCond .eq 7, 3) := by decide +kernel
theorem dX8_putCondition_21 : decode cX8_putCondition 21 = .ok (.iconst 1, 1) := by decide +kernel
theorem dX8_putCondition_22 : decode cX8_putCondition 22 = .ok (.goto 4, 3) := by decide +kernel
theorem dX8_putCondition_25 : decode cX8_putCondition 25 = .ok (.iconst 0, 1) := by decide +kernel
theorem dX8_putCondition_26 : decode cX8_putCondition 26 = .ok (.iadd, 1) := by decide +kernel
theorem dX8_putCondition_27 : decode cX8_putCondition 27 = .ok (.invokevirtual 214, 3) := by decide +kernel
theorem dX8_putCondition_30 : decode cX8_putCondition 30 = .ok (.return_, 1) := by decide +kernel
theorem dX8_readCondition_0 : decode cX8_readCondition 0 = .ok (.aload_n 0, 1) := by decide +kernel
theorem dX8_readCondition_1 : decode cX8_readCondition 1 = .ok (.aload_n 0, 1) := by decide +kernel
theorem dX8_readCondition_2 : decode cX8_readCondition 2 = .ok (.getfield 13, 3) := by decide +kernel
theorem dX8_readCondition_5 : decode cX8_readCondition 5 = .ok (.iconst 2, 1) := by decide +kernel
theorem dX8_readCondition_6 : decode cX8_readCondition 6 = .ok (.iaload, 1) := by decide +kernel
theorem dX8_readCondition_7 : decode cX8_readCondition 7 = .ok (.invokevirtual 211, 3) := by decide +kernel
theorem dX8_readCondition_10 : decode cX8_readCondition 10 = .ok (.istore_n 1, 1) := by decide +kernel
theorem dX8_readCondition_11 : decode cX8_readCondition 11 = .ok (.aload_n 0, 1) := by decide +kernel
theorem dX8_readCondition_12 : decode cX8_readCondition 12 = .ok (.iconst 0, 1) := by decide +kernel
theorem dX8_readCondition_13 : decode cX8_readCondition 13 = .ok (.iconst 3, 1) := by decide +kernel
theorem dX8_readCondition_14 : decode cX8_readCondition 14 = .ok (.invokevirtual 183, 3) := by decide +kernel
theorem dX8_readCondition_17 : decode cX8_readCondition 17 = .ok (.istore_n 2, 1) := by decide +kernel
theorem dX8_readCondition_18 : decode cX8_readCondition 18 = .ok (.aload_n 0, 1) := by decide +kernel
theorem dX8_readCondition_19 : decode cX8_readCondition 19 = .ok (.getfield 29, 3) := by decide +kernel
theorem dX8_readCondition_22 : decode cX8_readCondition 22 = .ok (.iconst (-1), 1) := by decide +kernel
theorem dX8_readCondition_23 : decode cX8_readCondition 23 = .ok (.if_icmp .ne 21, 3) := by decide +kernel
theorem dX8_readCondition_26 : decode cX8_readCondition 26 = .ok (.aload_n 0, 1) := by decide +kernel
theorem dX8_readCondition_27 : decode cX8_readCondition 27 = .ok (.iload_n 1, 1) := by decide +kernel
theorem dX8_readCondition_28 : decode cX8_readCondition 28 = .ok (.invokevirtual 221, 3) := by decide +kernel
theorem dX8_readCondition_31 : decode cX8_readCondition 31 = .ok (.bipush 6, 2) := by decide +kernel
theorem dX8_readCondition_33 : decode cX8_readCondition 33 = .ok (.if_icmp .ne 11, 3) := by decide +kernel
theorem dX8_readCondition_36 : decode cX8_readCondition 36 = .ok (.aload_n 0, 1) := by decide +kernel
theorem dX8_readCondition_37 : decode cX8_readCondition 37 = .ok (.aload_n 0, 1) := by decide +kernel
theorem dX8_readCondition_38 : decode cX8_readCondition 38 = .ok (.getfield 166, 3) := by decide +kernel
theorem dX8_readCondition_41 : decode cX8_readCondition 41 = .ok (.invokevirtual 176, 3) := by decide +kernel
theorem dX8_readCondition_44 : decode cX8_readCondition 44 = .ok (.bipush 97, 2) := by decide +kernel
theorem dX8_readCondition_46 : decode cX8_readCondition 46 = .ok (.aload_n 0, 1) := by decide +kernel
theorem dX8_readCondition_47 : decode cX8_readCondition 47 = .ok (.bipush 97, 2) := by decide +kernel
theorem dX8_readCondition_49 : decode cX8_readCondition 49 = .ok (.bipush 122, 2) := by decide +kernel
theorem dX8_readCondition_51 : decode cX8_readCondition 51 = .ok (.invokevirtual 180, 3) := by decide +kernel
theorem dX8_readCondition_54 : decode cX8_readCondition 54 = .ok (.iadd, 1) := by decide +kernel
theorem dX8_readCondition_55 : decode cX8_readCondition 55 = .ok (.istore_n 3, 1) := by decide +kernel
theorem dX8_readCondition_56 : decode cX8_readCondition 56 = .ok (.aload_n 0, 1) := by decide +kernel
theorem dX8_readCondition_57 : decode cX8_readCondition 57 = .ok (.bipush 59, 2) := by decide +kernel
theorem dX8_readCondition_59 : decode cX8_readCondition 59 = .ok (.invokevirtual 201, 3) := by decide +kernel
theorem dX8_readCondition_62 : decode cX8_readCondition 62 = .ok (.aload_n 0, 1) := by decide +kernel
theorem dX8_readCondition_63 : decode cX8_readCondition 63 = .ok (.getfield 29, 3) := by decide +kernel
theorem dX8_readCondition_66 : decode cX8_readCondition 66 = .ok (.iconst (-1), 1) := by decide +kernel
theorem dX8_readCondition_67 : decode cX8_readCondition 67 = .ok (.if_icmp .ne 30, 3) := by decide +kernel
theorem dX8_readCondition_70 : decode cX8_readCondition 70 = .ok (.aload_n 0, 1) := by decide +kernel
theorem dX8_readCondition_71 : decode cX8_readCondition 71 = .ok (.iload_n 1, 1) := by decide +kernel
theorem dX8_readCondition_72 : decode cX8_readCondition 72 = .ok (.aload_n 0, 1) := by decide +kernel
theorem dX8_readCondition_73 : decode cX8_readCondition 73 = .ok (.iload_n 1, 1) := by decide +kernel
theorem dX8_readCondition_74 : decode cX8_readCondition 74 = .ok (.invokevirtual 221, 3) := by decide +kernel
theorem dX8_readCondition_77 : decode cX8_readCondition 77 = .ok (.iload_n 2, 1) := by decide +kernel
theorem dX8_readCondition_78 : decode cX8_readCondition 78 = .ok (.iload_n 3, 1) := by decide +kernel
theorem dX8_readCondition_79 : decode cX8_readCondition 79 = .ok (.iconst 1, 1) := by decide +kernel
theorem dX8_readCondition_80 : decode cX8_readCondition 80 = .ok (.invokevirtual 224, 3) := by decide +kernel
theorem dX8_readCondition_83 : decode cX8_readCondition 83 = .ok (.aload_n 0, 1) := by decide +kernel
theorem dX8_readCondition_84 : decode cX8_readCondition 84 = .ok (.iload_n 1, 1) := by decide +kernel
theorem dX8_readCondition_85 : decode cX8_readCondition 85 = .ok (.bipush 45, 2) := by decide +kernel
theorem dX8_readCondition_87 : decode cX8_readCondition 87 = .ok (.aload_n 0, 1) := by decide +kernel
theorem dX8_readCondition_88 : decode cX8_readCondition 88 = .ok (.iload_n 1, 1) := by decide +kernel
theorem dX8_readCondition_89 : decode cX8_readCondition 89 = .ok (.invokevirtual 221, 3) := by decide +kernel
theorem dX8_readCondition_92 : decode cX8_readCondition 92 = .ok (.iconst 1, 1) := by decide +kernel
theorem dX8_readCondition_93 : decode cX8_readCondition 93 = .ok (.iadd, 1) := by decide +kernel
theorem dX8_readCondition_94 : decode cX8_readCondition 94 = .ok (.invokevirtual 214, 3) := by decide +kernel
theorem dX8_readCondition_97 : decode cX8_readCondition 97 = .ok (.return_, 1) := by decide +kernel
theorem dX8_leastOf_0 : decode cX8_leastOf 0 = .ok (.iload_n 0, 1) := by decide +kernel
theorem dX8_leastOf_1 : decode cX8_leastOf 1 = .ok (.iconst 3, 1) := by decide +kernel
theorem dX8_leastOf_2 : decode cX8_leastOf 2 = .ok (.if_icmp .eq 8, 3) := by decide +kernel
theorem dX8_leastOf_5 : decode cX8_leastOf 5 = .ok (.iload_n 0, 1) := by decide +kernel
theorem dX8_leastOf_6 : decode cX8_leastOf 6 = .ok (.iconst 4, 1) := by decide +kernel
theorem dX8_leastOf_7 : decode cX8_leastOf 7 = .ok (.if_icmp .ne 7, 3) := by decide +kernel
theorem dX8_leastOf_10 : decode cX8_leastOf 10 = .ok (.iconst 1, 1) := by decide +kernel
theorem dX8_leastOf_11 : decode cX8_leastOf 11 = .ok (.goto 4, 3) := by decide +kernel
theorem dX8_leastOf_14 : decode cX8_leastOf 14 = .ok (.iconst 0, 1) := by decide +kernel
theorem dX8_leastOf_15 : decode cX8_leastOf 15 = .ok (.ireturn, 1) := by decide +kernel
theorem dX8_mostOf_0 : decode cX8_mostOf 0 = .ok (.iload_n 0, 1) := by decide +kernel
theorem dX8_mostOf_1 : decode cX8_mostOf 1 = .ok (.iconst 2, 1) := by decide +kernel
theorem dX8_mostOf_2 : decode cX8_mostOf 2 = .ok (.if_icmp .eq 8, 3) := by decide +kernel
theorem dX8_mostOf_5 : decode cX8_mostOf 5 = .ok (.iload_n 0, 1) := by decide +kernel
theorem dX8_mostOf_6 : decode cX8_mostOf 6 = .ok (.iconst 4, 1) := by decide +kernel
theorem dX8_mostOf_7 : decode cX8_mostOf 7 = .ok (.if_icmp .ne 8, 3) := by decide +kernel
theorem dX8_mostOf_10 : decode cX8_mostOf 10 = .ok (.bipush 99, 2) := by decide +kernel
theorem dX8_mostOf_12 : decode cX8_mostOf 12 = .ok (.goto 15, 3) := by decide +kernel
theorem dX8_mostOf_15 : decode cX8_mostOf 15 = .ok (.iload_n 0, 1) := by decide +kernel
theorem dX8_mostOf_16 : decode cX8_mostOf 16 = .ok (.iconst 5, 1) := by decide +kernel
theorem dX8_mostOf_17 : decode cX8_mostOf 17 = .ok (.if_icmp .ne 8, 3) := by decide +kernel
theorem dX8_mostOf_20 : decode cX8_mostOf 20 = .ok (.bipush 63, 2) := by decide +kernel
theorem dX8_mostOf_22 : decode cX8_mostOf 22 = .ok (.goto 5, 3) := by decide +kernel
theorem dX8_mostOf_25 : decode cX8_mostOf 25 = .ok (.bipush 9, 2) := by decide +kernel
theorem dX8_mostOf_27 : decode cX8_mostOf 27 = .ok (.ireturn, 1) := by decide +kernel
theorem dX8_readRule_0 : decode cX8_readRule 0 = .ok (.aload_n 0, 1) := by decide +kernel
theorem dX8_readRule_1 : decode cX8_readRule 1 = .ok (.iconst 0, 1) := by decide +kernel
theorem dX8_readRule_2 : decode cX8_readRule 2 = .ok (.iconst 3, 1) := by decide +kernel
theorem dX8_readRule_3 : decode cX8_readRule 3 = .ok (.invokevirtual 183, 3) := by decide +kernel
theorem dX8_readRule_6 : decode cX8_readRule 6 = .ok (.istore_n 1, 1) := by decide +kernel
theorem dX8_readRule_7 : decode cX8_readRule 7 = .ok (.aload_n 0, 1) := by decide +kernel
theorem dX8_readRule_8 : decode cX8_readRule 8 = .ok (.iconst 0, 1) := by decide +kernel
theorem dX8_readRule_9 : decode cX8_readRule 9 = .ok (.bipush 6, 2) := by decide +kernel
theorem dX8_readRule_11 : decode cX8_readRule 11 = .ok (.invokevirtual 183, 3) := by decide +kernel
theorem dX8_readRule_14 : decode cX8_readRule 14 = .ok (.istore_n 2, 1) := by decide +kernel
theorem dX8_readRule_15 : decode cX8_readRule 15 = .ok (.aload_n 0, 1) := by decide +kernel
theorem dX8_readRule_16 : decode cX8_readRule 16 = .ok (.getfield 29, 3) := by decide +kernel
theorem dX8_readRule_19 : decode cX8_readRule 19 = .ok (.iconst (-1), 1) := by decide +kernel
theorem dX8_readRule_20 : decode cX8_readRule 20 = .ok (.if_icmp .ne 18, 3) := by decide +kernel
theorem dX8_readRule_23 : decode cX8_readRule 23 = .ok (.aload_n 0, 1) := by decide +kernel
theorem dX8_readRule_24 : decode cX8_readRule 24 = .ok (.iload_n 2, 1) := by decide +kernel
theorem dX8_readRule_25 : decode cX8_readRule 25 = .ok (.invokestatic 228, 3) := by decide +kernel
theorem dX8_readRule_28 : decode cX8_readRule 28 = .ok (.iload_n 2, 1) := by decide +kernel
theorem dX8_readRule_29 : decode cX8_readRule 29 = .ok (.invokestatic 231, 3) := by decide +kernel
theorem dX8_readRule_32 : decode cX8_readRule 32 = .ok (.invokevirtual 218, 3) := by decide +kernel
theorem dX8_readRule_35 : decode cX8_readRule 35 = .ok (.goto 4, 3) := by decide +kernel
theorem dX8_readRule_38 : decode cX8_readRule 38 = .ok (.iconst 0, 1) := by decide +kernel
theorem dX8_readRule_39 : decode cX8_readRule 39 = .ok (.istore_n 3, 1) := by decide +kernel
theorem dX8_readRule_40 : decode cX8_readRule 40 = .ok (.aload_n 0, 1) := by decide +kernel
theorem dX8_readRule_41 : decode cX8_readRule 41 = .ok (.bipush 59, 2) := by decide +kernel
theorem dX8_readRule_43 : decode cX8_readRule 43 = .ok (.invokevirtual 201, 3) := by decide +kernel
theorem dX8_readRule_46 : decode cX8_readRule 46 = .ok (.aload_n 0, 1) := by decide +kernel
theorem dX8_readRule_47 : decode cX8_readRule 47 = .ok (.getfield 29, 3) := by decide +kernel
theorem dX8_readRule_50 : decode cX8_readRule 50 = .ok (.iconst (-1), 1) := by decide +kernel
theorem dX8_readRule_51 : decode cX8_readRule 51 = .ok (.if_icmp .ne 17, 3) := by decide +kernel
theorem dX8_readRule_54 : decode cX8_readRule 54 = .ok (.aload_n 0, 1) := by decide +kernel
theorem dX8_readRule_55 : decode cX8_readRule 55 = .ok (.getfield 13, 3) := by decide +kernel
theorem dX8_readRule_58 : decode cX8_readRule 58 = .ok (.iconst 4, 1) := by decide +kernel
theorem dX8_readRule_59 : decode cX8_readRule 59 = .ok (.bipush 7, 2) := by decide +kernel
theorem dX8_readRule_61 : decode cX8_readRule 61 = .ok (.iload_n 1, 1) := by decide +kernel
theorem dX8_readRule_62 : decode cX8_readRule 62 = .ok (.imul, 1) := by decide +kernel
theorem dX8_readRule_63 : decode cX8_readRule 63 = .ok (.iadd, 1) := by decide +kernel
theorem dX8_readRule_64 : decode cX8_readRule 64 = .ok (.iload_n 2, 1) := by decide +kernel
theorem dX8_readRule_65 : decode cX8_readRule 65 = .ok (.iadd, 1) := by decide +kernel
theorem dX8_readRule_66 : decode cX8_readRule 66 = .ok (.iload_n 3, 1) := by decide +kernel
theorem dX8_readRule_67 : decode cX8_readRule 67 = .ok (.iastore, 1) := by decide +kernel
theorem dX8_readRule_68 : decode cX8_readRule 68 = .ok (.return_, 1) := by decide +kernel
theorem dX8_readCommand_0 : decode cX8_readCommand 0 = .ok (.aload_n 0, 1) := by decide +kernel
theorem dX8_readCommand_1 : decode cX8_readCommand 1 = .ok (.invokevirtual 172, 3) := by decide +kernel
theorem dX8_readCommand_4 : decode cX8_readCommand 4 = .ok (.istore_n 1, 1) := by decide +kernel
theorem dX8_readCommand_5 : decode cX8_readCommand 5 = .ok (.iload_n 1, 1) := by decide +kernel
theorem dX8_readCommand_6 : decode cX8_readCommand 6 = .ok (.bipush 76, 2) := by decide +kernel
theorem dX8_readCommand_8 : decode cX8_readCommand 8 = .ok (.if_icmp .ne 14, 3) := by decide +kernel
theorem dX8_readCommand_11 : decode cX8_readCommand 11 = .ok (.aload_n 0, 1) := by decide +kernel
theorem dX8_readCommand_12 : decode cX8_readCommand 12 = .ok (.getfield 13, 3) := by decide +kernel
theorem dX8_readCommand_15 : decode cX8_readCommand 15 = .ok (.iconst 1, 1) := by decide +kernel
theorem dX8_readCommand_16 : decode cX8_readCommand 16 = .ok (.iaload, 1) := by decide +kernel
theorem dX8_readCommand_17 : decode cX8_readCommand 17 = .ok (.bipush 8, 2) := by decide +kernel
theorem dX8_readCommand_19 : decode cX8_readCommand 19 = .ok (.if_icmp .eq 37, 3) := by decide +kernel
theorem dX8_readCommand_22 : decode cX8_readCommand 22 = .ok (.iload_n 1, 1) := by decide +kernel
theorem dX8_readCommand_23 : decode cX8_readCommand 23 = .ok (.bipush 80, 2) := by decide +kernel
theorem dX8_readCommand_25 : decode cX8_readCommand 25 = .ok (.if_icmp .ne 14, 3) := by decide +kernel
theorem dX8_readCommand_28 : decode cX8_readCommand 28 = .ok (.aload_n 0, 1) := by decide +kernel
theorem dX8_readCommand_29 : decode cX8_readCommand 29 = .ok (.getfield 13, 3) := by decide +kernel
theorem dX8_readCommand_32 : decode cX8_readCommand 32 = .ok (.iconst 2, 1) := by decide +kernel
theorem dX8_readCommand_33 : decode cX8_readCommand 33 = .ok (.iaload, 1) := by decide +kernel
theorem dX8_readCommand_34 : decode cX8_readCommand 34 = .ok (.bipush 10, 2) := by decide +kernel
theorem dX8_readCommand_36 : decode cX8_readCommand 36 = .ok (.if_icmp .eq 20, 3) := by decide +kernel
theorem dX8_readCommand_39 : decode cX8_readCommand 39 = .ok (.iload_n 1, 1) := by decide +kernel
theorem dX8_readCommand_40 : decode cX8_readCommand 40 = .ok (.bipush 86, 2) := by decide +kernel
theorem dX8_readCommand_42 : decode cX8_readCommand 42 = .ok (.if_icmp .ne 18, 3) := by decide +kernel
theorem dX8_readCommand_45 : decode cX8_readCommand 45 = .ok (.aload_n 0, 1) := by decide +kernel
theorem dX8_readCommand_46 : decode cX8_readCommand 46 = .ok (.getfield 13, 3) := by decide +kernel
theorem dX8_readCommand_49 : decode cX8_readCommand 49 = .ok (.iconst 3, 1) := by decide +kernel
theorem dX8_readCommand_50 : decode cX8_readCommand 50 = .ok (.iaload, 1) := by decide +kernel
theorem dX8_readCommand_51 : decode cX8_readCommand 51 = .ok (.bipush 12, 2) := by decide +kernel
theorem dX8_readCommand_53 : decode cX8_readCommand 53 = .ok (.if_icmp .ne 7, 3) := by decide +kernel
theorem dX8_readCommand_56 : decode cX8_readCommand 56 = .ok (.iconst 1, 1) := by decide +kernel
theorem dX8_readCommand_57 : decode cX8_readCommand 57 = .ok (.goto 4, 3) := by decide +kernel
theorem dX8_readCommand_60 : decode cX8_readCommand 60 = .ok (.iconst 0, 1) := by decide +kernel
theorem dX8_readCommand_61 : decode cX8_readCommand 61 = .ok (.istore_n 2, 1) := by decide +kernel
theorem dX8_readCommand_62 : decode cX8_readCommand 62 = .ok (.iload_n 1, 1) := by decide +kernel
theorem dX8_readCommand_63 : decode cX8_readCommand 63 = .ok (.bipush 76, 2) := by decide +kernel
theorem dX8_readCommand_65 : decode cX8_readCommand 65 = .ok (.if_icmp .eq 27, 3) := by decide +kernel
theorem dX8_readCommand_68 : decode cX8_readCommand 68 = .ok (.iload_n 1, 1) := by decide +kernel
theorem dX8_readCommand_69 : decode cX8_readCommand 69 = .ok (.bipush 80, 2) := by decide +kernel
theorem dX8_readCommand_71 : decode cX8_readCommand 71 = .ok (.if_icmp .eq 21, 3) := by decide +kernel
theorem dX8_readCommand_74 : decode cX8_readCommand 74 = .ok (.iload_n 1, 1) := by decide +kernel
theorem dX8_readCommand_75 : decode cX8_readCommand 75 = .ok (.bipush 86, 2) := by decide +kernel
theorem dX8_readCommand_77 : decode cX8_readCommand 77 = .ok (.if_icmp .eq 15, 3) := by decide +kernel
theorem dX8_readCommand_80 : decode cX8_readCommand 80 = .ok (.iload_n 1, 1) := by decide +kernel
theorem dX8_readCommand_81 : decode cX8_readCommand 81 = .ok (.bipush 67, 2) := by decide +kernel
theorem dX8_readCommand_83 : decode cX8_readCommand 83 = .ok (.if_icmp .eq 9, 3) := by decide +kernel
theorem dX8_readCommand_86 : decode cX8_readCommand 86 = .ok (.iload_n 1, 1) := by decide +kernel
theorem dX8_readCommand_87 : decode cX8_readCommand 87 = .ok (.bipush 90, 2) := by decide +kernel
theorem dX8_readCommand_89 : decode cX8_readCommand 89 = .ok (.if_icmp .ne 7, 3) := by decide +kernel
theorem dX8_readCommand_92 : decode cX8_readCommand 92 = .ok (.iconst 1, 1) := by decide +kernel
theorem dX8_readCommand_93 : decode cX8_readCommand 93 = .ok (.goto 4, 3) := by decide +kernel
theorem dX8_readCommand_96 : decode cX8_readCommand 96 = .ok (.iconst 0, 1) := by decide +kernel
theorem dX8_readCommand_97 : decode cX8_readCommand 97 = .ok (.istore_n 3, 1) := by decide +kernel
theorem dX8_readCommand_98 : decode cX8_readCommand 98 = .ok (.iload_n 3, 1) := by decide +kernel
theorem dX8_readCommand_99 : decode cX8_readCommand 99 = .ok (.ifCond .eq 7, 3) := by decide +kernel
theorem dX8_readCommand_102 : decode cX8_readCommand 102 = .ok (.iload_n 2, 1) := by decide +kernel
theorem dX8_readCommand_103 : decode cX8_readCommand 103 = .ok (.ifCond .eq 12, 3) := by decide +kernel
theorem dX8_readCommand_106 : decode cX8_readCommand 106 = .ok (.aload_n 0, 1) := by decide +kernel
theorem dX8_readCommand_107 : decode cX8_readCommand 107 = .ok (.aload_n 0, 1) := by decide +kernel
theorem dX8_readCommand_108 : decode cX8_readCommand 108 = .ok (.getfield 166, 3) := by decide +kernel
theorem dX8_readCommand_111 : decode cX8_readCommand 111 = .ok (.invokevirtual 176, 3) := by decide +kernel
theorem dX8_readCommand_114 : decode cX8_readCommand 114 = .ok (.return_, 1) := by decide +kernel
theorem dX8_readCommand_115 : decode cX8_readCommand 115 = .ok (.aload_n 0, 1) := by decide +kernel
theorem dX8_readCommand_116 : decode cX8_readCommand 116 = .ok (.dup, 1) := by decide +kernel
theorem dX8_readCommand_117 : decode cX8_readCommand 117 = .ok (.getfield 166, 3) := by decide +kernel
theorem dX8_readCommand_120 : decode cX8_readCommand 120 = .ok (.iconst 1, 1) := by decide +kernel
theorem dX8_readCommand_121 : decode cX8_readCommand 121 = .ok (.iadd, 1) := by decide +kernel
theorem dX8_readCommand_122 : decode cX8_readCommand 122 = .ok (.putfield 166, 3) := by decide +kernel
theorem dX8_readCommand_125 : decode cX8_readCommand 125 = .ok (.iload_n 1, 1) := by decide +kernel
theorem dX8_readCommand_126 : decode cX8_readCommand 126 = .ok (.lookupswitch 70 #[(67, 63), (76, 42), (80, 49), (86, 56)], 42) := by decide +kernel
theorem dX8_readCommand_168 : decode cX8_readCommand 168 = .ok (.aload_n 0, 1) := by decide +kernel
theorem dX8_readCommand_169 : decode cX8_readCommand 169 = .ok (.invokevirtual 234, 3) := by decide +kernel
theorem dX8_readCommand_172 : decode cX8_readCommand 172 = .ok (.goto 28, 3) := by decide +kernel
theorem dX8_readCommand_175 : decode cX8_readCommand 175 = .ok (.aload_n 0, 1) := by decide +kernel
theorem dX8_readCommand_176 : decode cX8_readCommand 176 = .ok (.invokevirtual 237, 3) := by decide +kernel
theorem dX8_readCommand_179 : decode cX8_readCommand 179 = .ok (.goto 21, 3) := by decide +kernel
theorem dX8_readCommand_182 : decode cX8_readCommand 182 = .ok (.aload_n 0, 1) := by decide +kernel
theorem dX8_readCommand_183 : decode cX8_readCommand 183 = .ok (.invokevirtual 240, 3) := by decide +kernel
theorem dX8_readCommand_186 : decode cX8_readCommand 186 = .ok (.goto 14, 3) := by decide +kernel
theorem dX8_readCommand_189 : decode cX8_readCommand 189 = .ok (.aload_n 0, 1) := by decide +kernel
theorem dX8_readCommand_190 : decode cX8_readCommand 190 = .ok (.invokevirtual 243, 3) := by decide +kernel
theorem dX8_readCommand_193 : decode cX8_readCommand 193 = .ok (.goto 7, 3) := by decide +kernel
theorem dX8_readCommand_196 : decode cX8_readCommand 196 = .ok (.aload_n 0, 1) := by decide +kernel
theorem dX8_readCommand_197 : decode cX8_readCommand 197 = .ok (.invokevirtual 246, 3) := by decide +kernel
theorem dX8_readCommand_200 : decode cX8_readCommand 200 = .ok (.return_, 1) := by decide +kernel
theorem dX8_execute_0 : decode cX8_execute 0 = .ok (.aload_n 0, 1) := by decide +kernel
theorem dX8_execute_1 : decode cX8_execute 1 = .ok (.iconst 0, 1) := by decide +kernel
theorem dX8_execute_2 : decode cX8_execute 2 = .ok (.putfield 1, 3) := by decide +kernel
theorem dX8_execute_5 : decode cX8_execute 5 = .ok (.aload_n 0, 1) := by decide +kernel
theorem dX8_execute_6 : decode cX8_execute 6 = .ok (.aload_n 0, 1) := by decide +kernel
theorem dX8_execute_7 : decode cX8_execute 7 = .ok (.getfield 160, 3) := by decide +kernel
theorem dX8_execute_10 : decode cX8_execute 10 = .ok (.putfield 169, 3) := by decide +kernel
theorem dX8_execute_13 : decode cX8_execute 13 = .ok (.aload_n 0, 1) := by decide +kernel
theorem dX8_execute_14 : decode cX8_execute 14 = .ok (.iconst 0, 1) := by decide +kernel
theorem dX8_execute_15 : decode cX8_execute 15 = .ok (.putfield 160, 3) := by decide +kernel
theorem dX8_execute_18 : decode cX8_execute 18 = .ok (.aload_n 0, 1) := by decide +kernel
theorem dX8_execute_19 : decode cX8_execute 19 = .ok (.iconst 0, 1) := by decide +kernel
theorem dX8_execute_20 : decode cX8_execute 20 = .ok (.putfield 166, 3) := by decide +kernel
theorem dX8_execute_23 : decode cX8_execute 23 = .ok (.aload_n 0, 1) := by decide +kernel
theorem dX8_execute_24 : decode cX8_execute 24 = .ok (.iconst (-1), 1) := by decide +kernel
theorem dX8_execute_25 : decode cX8_execute 25 = .ok (.putfield 29, 3) := by decide +kernel
theorem dX8_execute_28 : decode cX8_execute 28 = .ok (.aload_n 0, 1) := by decide +kernel
theorem dX8_execute_29 : decode cX8_execute 29 = .ok (.getfield 13, 3) := by decide +kernel
theorem dX8_execute_32 : decode cX8_execute 32 = .ok (.aload_n 0, 1) := by decide +kernel
theorem dX8_execute_33 : decode cX8_execute 33 = .ok (.getfield 20, 3) := by decide +kernel
theorem dX8_execute_36 : decode cX8_execute 36 = .ok (.invokestatic 42, 3) := by decide +kernel
theorem dX8_execute_39 : decode cX8_execute 39 = .ok (.iconst 0, 1) := by decide +kernel
theorem dX8_execute_40 : decode cX8_execute 40 = .ok (.istore_n 1, 1) := by decide +kernel
theorem dX8_execute_41 : decode cX8_execute 41 = .ok (.aload_n 0, 1) := by decide +kernel
theorem dX8_execute_42 : decode cX8_execute 42 = .ok (.getfield 29, 3) := by decide +kernel
theorem dX8_execute_45 : decode cX8_execute 45 = .ok (.iconst (-1), 1) := by decide +kernel
theorem dX8_execute_46 : decode cX8_execute 46 = .ok (.if_icmp .ne 28, 3) := by decide +kernel
theorem dX8_execute_49 : decode cX8_execute 49 = .ok (.iload_n 1, 1) := by decide +kernel
theorem dX8_execute_50 : decode cX8_execute 50 = .ok (.ifCond .eq 14, 3) := by decide +kernel
theorem dX8_execute_53 : decode cX8_execute 53 = .ok (.aload_n 0, 1) := by decide +kernel
theorem dX8_execute_54 : decode cX8_execute 54 = .ok (.getfield 166, 3) := by decide +kernel
theorem dX8_execute_57 : decode cX8_execute 57 = .ok (.aload_n 0, 1) := by decide +kernel
theorem dX8_execute_58 : decode cX8_execute 58 = .ok (.getfield 169, 3) := by decide +kernel
theorem dX8_execute_61 : decode cX8_execute 61 = .ok (.if_icmp .ge 13, 3) := by decide +kernel
theorem dX8_execute_64 : decode cX8_execute 64 = .ok (.aload_n 0, 1) := by decide +kernel
theorem dX8_execute_65 : decode cX8_execute 65 = .ok (.invokevirtual 249, 3) := by decide +kernel
theorem dX8_execute_68 : decode cX8_execute 68 = .ok (.iinc 1 1, 3) := by decide +kernel
theorem dX8_execute_71 : decode cX8_execute 71 = .ok (.goto (-30), 3) := by decide +kernel
theorem dX8_execute_74 : decode cX8_execute 74 = .ok (.aload_n 0, 1) := by decide +kernel
theorem dX8_execute_75 : decode cX8_execute 75 = .ok (.getfield 29, 3) := by decide +kernel
theorem dX8_execute_78 : decode cX8_execute 78 = .ok (.iconst (-1), 1) := by decide +kernel
theorem dX8_execute_79 : decode cX8_execute 79 = .ok (.if_icmp .eq 20, 3) := by decide +kernel
theorem dX8_execute_82 : decode cX8_execute 82 = .ok (.aload_n 0, 1) := by decide +kernel
theorem dX8_execute_83 : decode cX8_execute 83 = .ok (.getfield 20, 3) := by decide +kernel
theorem dX8_execute_86 : decode cX8_execute 86 = .ok (.aload_n 0, 1) := by decide +kernel
theorem dX8_execute_87 : decode cX8_execute 87 = .ok (.getfield 13, 3) := by decide +kernel
theorem dX8_execute_90 : decode cX8_execute 90 = .ok (.invokestatic 42, 3) := by decide +kernel
theorem dX8_execute_93 : decode cX8_execute 93 = .ok (.aload_n 0, 1) := by decide +kernel
theorem dX8_execute_94 : decode cX8_execute 94 = .ok (.iconst 1, 1) := by decide +kernel
theorem dX8_execute_95 : decode cX8_execute 95 = .ok (.invokevirtual 163, 3) := by decide +kernel
theorem dX8_execute_98 : decode cX8_execute 98 = .ok (.ireturn, 1) := by decide +kernel
theorem dX8_execute_99 : decode cX8_execute 99 = .ok (.aload_n 0, 1) := by decide +kernel
theorem dX8_execute_100 : decode cX8_execute 100 = .ok (.invokevirtual 46, 3) := by decide +kernel
theorem dX8_execute_103 : decode cX8_execute 103 = .ok (.iload_n 1, 1) := by decide +kernel
theorem dX8_execute_104 : decode cX8_execute 104 = .ok (.ireturn, 1) := by decide +kernel
theorem dX8_errorPosition_0 : decode cX8_errorPosition 0 = .ok (.aload_n 0, 1) := by decide +kernel
theorem dX8_errorPosition_1 : decode cX8_errorPosition 1 = .ok (.iconst 0, 1) := by decide +kernel
theorem dX8_errorPosition_2 : decode cX8_errorPosition 2 = .ok (.putfield 1, 3) := by decide +kernel
theorem dX8_errorPosition_5 : decode cX8_errorPosition 5 = .ok (.aload_n 0, 1) := by decide +kernel
theorem dX8_errorPosition_6 : decode cX8_errorPosition 6 = .ok (.getfield 29, 3) := by decide +kernel
theorem dX8_errorPosition_9 : decode cX8_errorPosition 9 = .ok (.ireturn, 1) := by decide +kernel
theorem dX8_rule_0 : decode cX8_rule 0 = .ok (.aload_n 0, 1) := by decide +kernel
theorem dX8_rule_1 : decode cX8_rule 1 = .ok (.iload_n 1, 1) := by decide +kernel
theorem dX8_rule_2 : decode cX8_rule 2 = .ok (.iconst 0, 1) := by decide +kernel
theorem dX8_rule_3 : decode cX8_rule 3 = .ok (.iconst 3, 1) := by decide +kernel
theorem dX8_rule_4 : decode cX8_rule 4 = .ok (.invokestatic 49, 3) := by decide +kernel
theorem dX8_rule_7 : decode cX8_rule 7 = .ok (.ifCond .ne 7, 3) := by decide +kernel
theorem dX8_rule_10 : decode cX8_rule 10 = .ok (.iconst 1, 1) := by decide +kernel
theorem dX8_rule_11 : decode cX8_rule 11 = .ok (.goto 18, 3) := by decide +kernel
theorem dX8_rule_14 : decode cX8_rule 14 = .ok (.iload_n 2, 1) := by decide +kernel
theorem dX8_rule_15 : decode cX8_rule 15 = .ok (.iconst 0, 1) := by decide +kernel
theorem dX8_rule_16 : decode cX8_rule 16 = .ok (.bipush 6, 2) := by decide +kernel
theorem dX8_rule_18 : decode cX8_rule 18 = .ok (.invokestatic 49, 3) := by decide +kernel
theorem dX8_rule_21 : decode cX8_rule 21 = .ok (.ifCond .ne 7, 3) := by decide +kernel
theorem dX8_rule_24 : decode cX8_rule 24 = .ok (.iconst 2, 1) := by decide +kernel
theorem dX8_rule_25 : decode cX8_rule 25 = .ok (.goto 4, 3) := by decide +kernel
theorem dX8_rule_28 : decode cX8_rule 28 = .ok (.iconst 0, 1) := by decide +kernel
theorem dX8_rule_29 : decode cX8_rule 29 = .ok (.putfield 1, 3) := by decide +kernel
theorem dX8_rule_32 : decode cX8_rule 32 = .ok (.aload_n 0, 1) := by decide +kernel
theorem dX8_rule_33 : decode cX8_rule 33 = .ok (.getfield 1, 3) := by decide +kernel
theorem dX8_rule_36 : decode cX8_rule 36 = .ok (.ifCond .ne 19, 3) := by decide +kernel
theorem dX8_rule_39 : decode cX8_rule 39 = .ok (.aload_n 0, 1) := by decide +kernel
theorem dX8_rule_40 : decode cX8_rule 40 = .ok (.getfield 13, 3) := by decide +kernel
theorem dX8_rule_43 : decode cX8_rule 43 = .ok (.iconst 4, 1) := by decide +kernel
theorem dX8_rule_44 : decode cX8_rule 44 = .ok (.bipush 7, 2) := by decide +kernel
theorem dX8_rule_46 : decode cX8_rule 46 = .ok (.iload_n 1, 1) := by decide +kernel
theorem dX8_rule_47 : decode cX8_rule 47 = .ok (.imul, 1) := by decide +kernel
theorem dX8_rule_48 : decode cX8_rule 48 = .ok (.iadd, 1) := by decide +kernel
theorem dX8_rule_49 : decode cX8_rule 49 = .ok (.iload_n 2, 1) := by decide +kernel
theorem dX8_rule_50 : decode cX8_rule 50 = .ok (.iadd, 1) := by decide +kernel
theorem dX8_rule_51 : decode cX8_rule 51 = .ok (.iaload, 1) := by decide +kernel
theorem dX8_rule_52 : decode cX8_rule 52 = .ok (.goto 4, 3) := by decide +kernel
theorem dX8_rule_55 : decode cX8_rule 55 = .ok (.iconst 0, 1) := by decide +kernel
theorem dX8_rule_56 : decode cX8_rule 56 = .ok (.ireturn, 1) := by decide +kernel
theorem dX8_sides_0 : decode cX8_sides 0 = .ok (.iconst 0, 1) := by decide +kernel
theorem dX8_sides_1 : decode cX8_sides 1 = .ok (.istore_n 2, 1) := by decide +kernel
theorem dX8_sides_2 : decode cX8_sides 2 = .ok (.iconst 0, 1) := by decide +kernel
theorem dX8_sides_3 : decode cX8_sides 3 = .ok (.istore_n 3, 1) := by decide +kernel
theorem dX8_sides_4 : decode cX8_sides 4 = .ok (.iload_n 3, 1) := by decide +kernel
theorem dX8_sides_5 : decode cX8_sides 5 = .ok (.sipush 280, 3) := by decide +kernel
theorem dX8_sides_8 : decode cX8_sides 8 = .ok (.if_icmp .ge 80, 3) := by decide +kernel
theorem dX8_sides_11 : decode cX8_sides 11 = .ok (.iload_n 3, 1) := by decide +kernel
theorem dX8_sides_12 : decode cX8_sides 12 = .ok (.bipush 20, 2) := by decide +kernel
theorem dX8_sides_14 : decode cX8_sides 14 = .ok (.irem, 1) := by decide +kernel
theorem dX8_sides_15 : decode cX8_sides 15 = .ok (.istore 4, 2) := by decide +kernel
theorem dX8_sides_17 : decode cX8_sides 17 = .ok (.iload_n 3, 1) := by decide +kernel
theorem dX8_sides_18 : decode cX8_sides 18 = .ok (.bipush 20, 2) := by decide +kernel
theorem dX8_sides_20 : decode cX8_sides 20 = .ok (.idiv, 1) := by decide +kernel
theorem dX8_sides_21 : decode cX8_sides 21 = .ok (.istore 5, 2) := by decide +kernel
theorem dX8_sides_23 : decode cX8_sides 23 = .ok (.iconst 0, 1) := by decide +kernel
theorem dX8_sides_24 : decode cX8_sides 24 = .ok (.istore 6, 2) := by decide +kernel
theorem dX8_sides_26 : decode cX8_sides 26 = .ok (.iload 6, 2) := by decide +kernel
theorem dX8_sides_28 : decode cX8_sides 28 = .ok (.iconst 4, 1) := by decide +kernel
theorem dX8_sides_29 : decode cX8_sides 29 = .ok (.if_icmp .ge 53, 3) := by decide +kernel
theorem dX8_sides_32 : decode cX8_sides 32 = .ok (.aload_n 0, 1) := by decide +kernel
theorem dX8_sides_33 : decode cX8_sides 33 = .ok (.iload_n 1, 1) := by decide +kernel
theorem dX8_sides_34 : decode cX8_sides 34 = .ok (.iload 4, 2) := by decide +kernel
theorem dX8_sides_36 : decode cX8_sides 36 = .ok (.iload 5, 2) := by decide +kernel
theorem dX8_sides_38 : decode cX8_sides 38 = .ok (.invokevirtual 67, 3) := by decide +kernel
theorem dX8_sides_41 : decode cX8_sides 41 = .ok (.ifCond .eq 41, 3) := by decide +kernel
theorem dX8_sides_44 : decode cX8_sides 44 = .ok (.iload_n 2, 1) := by decide +kernel
theorem dX8_sides_45 : decode cX8_sides 45 = .ok (.aload_n 0, 1) := by decide +kernel
theorem dX8_sides_46 : decode cX8_sides 46 = .ok (.iload_n 1, 1) := by decide +kernel
theorem dX8_sides_47 : decode cX8_sides 47 = .ok (.iload 4, 2) := by decide +kernel
theorem dX8_sides_49 : decode cX8_sides 49 = .ok (.iload 6, 2) := by decide +kernel
theorem dX8_sides_51 : decode cX8_sides 51 = .ok (.invokestatic 70, 3) := by decide +kernel
theorem dX8_sides_54 : decode cX8_sides 54 = .ok (.iadd, 1) := by decide +kernel
theorem dX8_sides_55 : decode cX8_sides 55 = .ok (.iload 5, 2) := by decide +kernel
theorem dX8_sides_57 : decode cX8_sides 57 = .ok (.iload 6, 2) := by decide +kernel
theorem dX8_sides_59 : decode cX8_sides 59 = .ok (.invokestatic 73, 3) := by decide +kernel
theorem dX8_sides_62 : decode cX8_sides 62 = .ok (.iadd, 1) := by decide +kernel
theorem dX8_sides_63 : decode cX8_sides 63 = .ok (.invokevirtual 67, 3) := by decide +kernel
theorem dX8_sides_66 : decode cX8_sides 66 = .ok (.ifCond .eq 7, 3) := by decide +kernel
theorem dX8_sides_69 : decode cX8_sides 69 = .ok (.iconst 0, 1) := by decide +kernel
theorem dX8_sides_70 : decode cX8_sides 70 = .ok (.goto 4, 3) := by decide +kernel
theorem dX8_sides_73 : decode cX8_sides 73 = .ok (.iconst 1, 1) := by decide +kernel
theorem dX8_sides_74 : decode cX8_sides 74 = .ok (.iadd, 1) := by decide +kernel
theorem dX8_sides_75 : decode cX8_sides 75 = .ok (.istore_n 2, 1) := by decide +kernel
theorem dX8_sides_76 : decode cX8_sides 76 = .ok (.iinc 6 1, 3) := by decide +kernel
theorem dX8_sides_79 : decode cX8_sides 79 = .ok (.goto (-53), 3) := by decide +kernel
theorem dX8_sides_82 : decode cX8_sides 82 = .ok (.iinc 3 1, 3) := by decide +kernel
theorem dX8_sides_85 : decode cX8_sides 85 = .ok (.goto (-81), 3) := by decide +kernel
theorem dX8_sides_88 : decode cX8_sides 88 = .ok (.iload_n 2, 1) := by decide +kernel
theorem dX8_sides_89 : decode cX8_sides 89 = .ok (.ireturn, 1) := by decide +kernel
theorem dX8_builtCells_0 : decode cX8_builtCells 0 = .ok (.iconst 0, 1) := by decide +kernel
theorem dX8_builtCells_1 : decode cX8_builtCells 1 = .ok (.istore_n 2, 1) := by decide +kernel
theorem dX8_builtCells_2 : decode cX8_builtCells 2 = .ok (.iconst 0, 1) := by decide +kernel
theorem dX8_builtCells_3 : decode cX8_builtCells 3 = .ok (.istore_n 3, 1) := by decide +kernel
theorem dX8_builtCells_4 : decode cX8_builtCells 4 = .ok (.iload_n 3, 1) := by decide +kernel
theorem dX8_builtCells_5 : decode cX8_builtCells 5 = .ok (.sipush 280, 3) := by decide +kernel
theorem dX8_builtCells_8 : decode cX8_builtCells 8 = .ok (.if_icmp .ge 54, 3) := by decide +kernel
theorem dX8_builtCells_11 : decode cX8_builtCells 11 = .ok (.iload_n 3, 1) := by decide +kernel
theorem dX8_builtCells_12 : decode cX8_builtCells 12 = .ok (.bipush 20, 2) := by decide +kernel
theorem dX8_builtCells_14 : decode cX8_builtCells 14 = .ok (.irem, 1) := by decide +kernel
theorem dX8_builtCells_15 : decode cX8_builtCells 15 = .ok (.istore 4, 2) := by decide +kernel
theorem dX8_builtCells_17 : decode cX8_builtCells 17 = .ok (.iload_n 3, 1) := by decide +kernel
theorem dX8_builtCells_18 : decode cX8_builtCells 18 = .ok (.bipush 20, 2) := by decide +kernel
theorem dX8_builtCells_20 : decode cX8_builtCells 20 = .ok (.idiv, 1) := by decide +kernel
theorem dX8_builtCells_21 : decode cX8_builtCells 21 = .ok (.istore 5, 2) := by decide +kernel
theorem dX8_builtCells_23 : decode cX8_builtCells 23 = .ok (.iload_n 2, 1) := by decide +kernel
theorem dX8_builtCells_24 : decode cX8_builtCells 24 = .ok (.aload_n 0, 1) := by decide +kernel
theorem dX8_builtCells_25 : decode cX8_builtCells 25 = .ok (.iload_n 1, 1) := by decide +kernel
theorem dX8_builtCells_26 : decode cX8_builtCells 26 = .ok (.iload 4, 2) := by decide +kernel
theorem dX8_builtCells_28 : decode cX8_builtCells 28 = .ok (.iload 5, 2) := by decide +kernel
theorem dX8_builtCells_30 : decode cX8_builtCells 30 = .ok (.invokevirtual 67, 3) := by decide +kernel
theorem dX8_builtCells_33 : decode cX8_builtCells 33 = .ok (.ifCond .eq 20, 3) := by decide +kernel
theorem dX8_builtCells_36 : decode cX8_builtCells 36 = .ok (.aload_n 0, 1) := by decide +kernel
theorem dX8_builtCells_37 : decode cX8_builtCells 37 = .ok (.iload_n 1, 1) := by decide +kernel
theorem dX8_builtCells_38 : decode cX8_builtCells 38 = .ok (.iload 4, 2) := by decide +kernel
theorem dX8_builtCells_40 : decode cX8_builtCells 40 = .ok (.iload 5, 2) := by decide +kernel
theorem dX8_builtCells_42 : decode cX8_builtCells 42 = .ok (.iconst (-1), 1) := by decide +kernel
theorem dX8_builtCells_43 : decode cX8_builtCells 43 = .ok (.invokevirtual 98, 3) := by decide +kernel
theorem dX8_builtCells_46 : decode cX8_builtCells 46 = .ok (.ifCond .eq 7, 3) := by decide +kernel
theorem dX8_builtCells_49 : decode cX8_builtCells 49 = .ok (.iconst 1, 1) := by decide +kernel
theorem dX8_builtCells_50 : decode cX8_builtCells 50 = .ok (.goto 4, 3) := by decide +kernel
theorem dX8_builtCells_53 : decode cX8_builtCells 53 = .ok (.iconst 0, 1) := by decide +kernel
theorem dX8_builtCells_54 : decode cX8_builtCells 54 = .ok (.iadd, 1) := by decide +kernel
theorem dX8_builtCells_55 : decode cX8_builtCells 55 = .ok (.istore_n 2, 1) := by decide +kernel
theorem dX8_builtCells_56 : decode cX8_builtCells 56 = .ok (.iinc 3 1, 3) := by decide +kernel
theorem dX8_builtCells_59 : decode cX8_builtCells 59 = .ok (.goto (-55), 3) := by decide +kernel
theorem dX8_builtCells_62 : decode cX8_builtCells 62 = .ok (.iload_n 2, 1) := by decide +kernel
theorem dX8_builtCells_63 : decode cX8_builtCells 63 = .ok (.ireturn, 1) := by decide +kernel
theorem dX8_lot_0 : decode cX8_lot 0 = .ok (.aload_n 0, 1) := by decide +kernel
theorem dX8_lot_1 : decode cX8_lot 1 = .ok (.aload_n 0, 1) := by decide +kernel
theorem dX8_lot_2 : decode cX8_lot 2 = .ok (.iload_n 1, 1) := by decide +kernel
theorem dX8_lot_3 : decode cX8_lot 3 = .ok (.invokevirtual 252, 3) := by decide +kernel
theorem dX8_lot_6 : decode cX8_lot 6 = .ok (.ifCond .ne 7, 3) := by decide +kernel
theorem dX8_lot_9 : decode cX8_lot 9 = .ok (.iconst 1, 1) := by decide +kernel
theorem dX8_lot_10 : decode cX8_lot 10 = .ok (.goto 17, 3) := by decide +kernel
theorem dX8_lot_13 : decode cX8_lot 13 = .ok (.iload_n 2, 1) := by decide +kernel
theorem dX8_lot_14 : decode cX8_lot 14 = .ok (.iconst 0, 1) := by decide +kernel
theorem dX8_lot_15 : decode cX8_lot 15 = .ok (.iconst 5, 1) := by decide +kernel
theorem dX8_lot_16 : decode cX8_lot 16 = .ok (.invokestatic 49, 3) := by decide +kernel
theorem dX8_lot_19 : decode cX8_lot 19 = .ok (.ifCond .ne 7, 3) := by decide +kernel
theorem dX8_lot_22 : decode cX8_lot 22 = .ok (.iconst 2, 1) := by decide +kernel
theorem dX8_lot_23 : decode cX8_lot 23 = .ok (.goto 4, 3) := by decide +kernel
theorem dX8_lot_26 : decode cX8_lot 26 = .ok (.iconst 0, 1) := by decide +kernel
theorem dX8_lot_27 : decode cX8_lot 27 = .ok (.putfield 1, 3) := by decide +kernel
theorem dX8_lot_30 : decode cX8_lot 30 = .ok (.aload_n 0, 1) := by decide +kernel
theorem dX8_lot_31 : decode cX8_lot 31 = .ok (.getfield 1, 3) := by decide +kernel
theorem dX8_lot_34 : decode cX8_lot 34 = .ok (.ifCond .eq 5, 3) := by decide +kernel
theorem dX8_lot_37 : decode cX8_lot 37 = .ok (.iconst 0, 1) := by decide +kernel
theorem dX8_lot_38 : decode cX8_lot 38 = .ok (.ireturn, 1) := by decide +kernel
theorem dX8_lot_39 : decode cX8_lot 39 = .ok (.iload_n 2, 1) := by decide +kernel
theorem dX8_lot_40 : decode cX8_lot 40 = .ok (.iconst 2, 1) := by decide +kernel
theorem dX8_lot_41 : decode cX8_lot 41 = .ok (.if_icmp .ge 12, 3) := by decide +kernel
theorem dX8_lot_44 : decode cX8_lot 44 = .ok (.aload_n 0, 1) := by decide +kernel
theorem dX8_lot_45 : decode cX8_lot 45 = .ok (.iload_n 1, 1) := by decide +kernel
theorem dX8_lot_46 : decode cX8_lot 46 = .ok (.iload_n 2, 1) := by decide +kernel
theorem dX8_lot_47 : decode cX8_lot 47 = .ok (.invokevirtual 81, 3) := by decide +kernel
theorem dX8_lot_50 : decode cX8_lot 50 = .ok (.goto 48, 3) := by decide +kernel
theorem dX8_lot_53 : decode cX8_lot 53 = .ok (.iload_n 2, 1) := by decide +kernel
theorem dX8_lot_54 : decode cX8_lot 54 = .ok (.iconst 2, 1) := by decide +kernel
theorem dX8_lot_55 : decode cX8_lot 55 = .ok (.if_icmp .ne 11, 3) := by decide +kernel
theorem dX8_lot_58 : decode cX8_lot 58 = .ok (.aload_n 0, 1) := by decide +kernel
theorem dX8_lot_59 : decode cX8_lot 59 = .ok (.iload_n 1, 1) := by decide +kernel
theorem dX8_lot_60 : decode cX8_lot 60 = .ok (.invokevirtual 115, 3) := by decide +kernel
theorem dX8_lot_63 : decode cX8_lot 63 = .ok (.goto 35, 3) := by decide +kernel
theorem dX8_lot_66 : decode cX8_lot 66 = .ok (.iload_n 2, 1) := by decide +kernel
theorem dX8_lot_67 : decode cX8_lot 67 = .ok (.iconst 3, 1) := by decide +kernel
theorem dX8_lot_68 : decode cX8_lot 68 = .ok (.if_icmp .ne 11, 3) := by decide +kernel
theorem dX8_lot_71 : decode cX8_lot 71 = .ok (.aload_n 0, 1) := by decide +kernel
theorem dX8_lot_72 : decode cX8_lot 72 = .ok (.iload_n 1, 1) := by decide +kernel
theorem dX8_lot_73 : decode cX8_lot 73 = .ok (.invokevirtual 255, 3) := by decide +kernel
theorem dX8_lot_76 : decode cX8_lot 76 = .ok (.goto 22, 3) := by decide +kernel
theorem dX8_lot_79 : decode cX8_lot 79 = .ok (.iload_n 2, 1) := by decide +kernel
theorem dX8_lot_80 : decode cX8_lot 80 = .ok (.iconst 4, 1) := by decide +kernel
theorem dX8_lot_81 : decode cX8_lot 81 = .ok (.if_icmp .ne 12, 3) := by decide +kernel
theorem dX8_lot_84 : decode cX8_lot 84 = .ok (.aload_n 0, 1) := by decide +kernel
theorem dX8_lot_85 : decode cX8_lot 85 = .ok (.iload_n 1, 1) := by decide +kernel
theorem dX8_lot_86 : decode cX8_lot 86 = .ok (.iconst (-1), 1) := by decide +kernel
theorem dX8_lot_87 : decode cX8_lot 87 = .ok (.invokevirtual 121, 3) := by decide +kernel
theorem dX8_lot_90 : decode cX8_lot 90 = .ok (.goto 8, 3) := by decide +kernel
theorem dX8_lot_93 : decode cX8_lot 93 = .ok (.aload_n 0, 1) := by decide +kernel
theorem dX8_lot_94 : decode cX8_lot 94 = .ok (.iload_n 1, 1) := by decide +kernel
theorem dX8_lot_95 : decode cX8_lot 95 = .ok (.invokevirtual 258, 3) := by decide +kernel
theorem dX8_lot_98 : decode cX8_lot 98 = .ok (.ireturn, 1) := by decide +kernel
theorem dX8_rezone_0 : decode cX8_rezone 0 = .ok (.aload_n 0, 1) := by decide +kernel
theorem dX8_rezone_1 : decode cX8_rezone 1 = .ok (.aload_n 0, 1) := by decide +kernel
theorem dX8_rezone_2 : decode cX8_rezone 2 = .ok (.iload_n 1, 1) := by decide +kernel
theorem dX8_rezone_3 : decode cX8_rezone 3 = .ok (.invokevirtual 252, 3) := by decide +kernel
theorem dX8_rezone_6 : decode cX8_rezone 6 = .ok (.ifCond .ne 7, 3) := by decide +kernel
theorem dX8_rezone_9 : decode cX8_rezone 9 = .ok (.iconst 1, 1) := by decide +kernel
theorem dX8_rezone_10 : decode cX8_rezone 10 = .ok (.goto 17, 3) := by decide +kernel
theorem dX8_rezone_13 : decode cX8_rezone 13 = .ok (.iload_n 2, 1) := by decide +kernel
theorem dX8_rezone_14 : decode cX8_rezone 14 = .ok (.iconst 0, 1) := by decide +kernel
theorem dX8_rezone_15 : decode cX8_rezone 15 = .ok (.iconst 3, 1) := by decide +kernel
theorem dX8_rezone_16 : decode cX8_rezone 16 = .ok (.invokestatic 49, 3) := by decide +kernel
theorem dX8_rezone_19 : decode cX8_rezone 19 = .ok (.ifCond .ne 7, 3) := by decide +kernel
theorem dX8_rezone_22 : decode cX8_rezone 22 = .ok (.iconst 2, 1) := by decide +kernel
theorem dX8_rezone_23 : decode cX8_rezone 23 = .ok (.goto 4, 3) := by decide +kernel
theorem dX8_rezone_26 : decode cX8_rezone 26 = .ok (.iconst 0, 1) := by decide +kernel
theorem dX8_rezone_27 : decode cX8_rezone 27 = .ok (.putfield 1, 3) := by decide +kernel
theorem dX8_rezone_30 : decode cX8_rezone 30 = .ok (.aload_n 0, 1) := by decide +kernel
theorem dX8_rezone_31 : decode cX8_rezone 31 = .ok (.getfield 1, 3) := by decide +kernel
theorem dX8_rezone_34 : decode cX8_rezone 34 = .ok (.ifCond .eq 5, 3) := by decide +kernel
theorem dX8_rezone_37 : decode cX8_rezone 37 = .ok (.iconst 0, 1) := by decide +kernel
theorem dX8_rezone_38 : decode cX8_rezone 38 = .ok (.ireturn, 1) := by decide +kernel
theorem dX8_rezone_39 : decode cX8_rezone 39 = .ok (.aload_n 0, 1) := by decide +kernel
theorem dX8_rezone_40 : decode cX8_rezone 40 = .ok (.invokevirtual 261, 3) := by decide +kernel
theorem dX8_rezone_43 : decode cX8_rezone 43 = .ok (.aload_n 0, 1) := by decide +kernel
theorem dX8_rezone_44 : decode cX8_rezone 44 = .ok (.iload_n 1, 1) := by decide +kernel
theorem dX8_rezone_45 : decode cX8_rezone 45 = .ok (.iconst 0, 1) := by decide +kernel
theorem dX8_rezone_46 : decode cX8_rezone 46 = .ok (.invokevirtual 81, 3) := by decide +kernel
theorem dX8_rezone_49 : decode cX8_rezone 49 = .ok (.istore_n 3, 1) := by decide +kernel
theorem dX8_rezone_50 : decode cX8_rezone 50 = .ok (.aload_n 0, 1) := by decide +kernel
theorem dX8_rezone_51 : decode cX8_rezone 51 = .ok (.getfield 13, 3) := by decide +kernel
theorem dX8_rezone_54 : decode cX8_rezone 54 = .ok (.bipush 32, 2) := by decide +kernel
theorem dX8_rezone_56 : decode cX8_rezone 56 = .ok (.bipush 16, 2) := by decide +kernel
theorem dX8_rezone_58 : decode cX8_rezone 58 = .ok (.iload_n 1, 1) := by decide +kernel
theorem dX8_rezone_59 : decode cX8_rezone 59 = .ok (.imul, 1) := by decide +kernel
theorem dX8_rezone_60 : decode cX8_rezone 60 = .ok (.iadd, 1) := by decide +kernel
theorem dX8_rezone_61 : decode cX8_rezone 61 = .ok (.iload_n 2, 1) := by decide +kernel
theorem dX8_rezone_62 : decode cX8_rezone 62 = .ok (.iastore, 1) := by decide +kernel
theorem dX8_rezone_63 : decode cX8_rezone 63 = .ok (.iload_n 3, 1) := by decide +kernel
theorem dX8_rezone_64 : decode cX8_rezone 64 = .ok (.ireturn, 1) := by decide +kernel
theorem dX8_permitAt_0 : decode cX8_permitAt 0 = .ok (.iconst 0, 1) := by decide +kernel
theorem dX8_permitAt_1 : decode cX8_permitAt 1 = .ok (.istore_n 3, 1) := by decide +kernel
theorem dX8_permitAt_2 : decode cX8_permitAt 2 = .ok (.iload_n 3, 1) := by decide +kernel
theorem dX8_permitAt_3 : decode cX8_permitAt 3 = .ok (.aload_n 0, 1) := by decide +kernel
theorem dX8_permitAt_4 : decode cX8_permitAt 4 = .ok (.getfield 13, 3) := by decide +kernel
theorem dX8_permitAt_7 : decode cX8_permitAt 7 = .ok (.iconst 2, 1) := by decide +kernel
theorem dX8_permitAt_8 : decode cX8_permitAt 8 = .ok (.iaload, 1) := by decide +kernel
theorem dX8_permitAt_9 : decode cX8_permitAt 9 = .ok (.if_icmp .ge 29, 3) := by decide +kernel
theorem dX8_permitAt_12 : decode cX8_permitAt 12 = .ok (.aload_n 0, 1) := by decide +kernel
theorem dX8_permitAt_13 : decode cX8_permitAt 13 = .ok (.iload_n 3, 1) := by decide +kernel
theorem dX8_permitAt_14 : decode cX8_permitAt 14 = .ok (.invokevirtual 91, 3) := by decide +kernel
theorem dX8_permitAt_17 : decode cX8_permitAt 17 = .ok (.ifCond .eq 15, 3) := by decide +kernel
theorem dX8_permitAt_20 : decode cX8_permitAt 20 = .ok (.aload_n 0, 1) := by decide +kernel
theorem dX8_permitAt_21 : decode cX8_permitAt 21 = .ok (.iload_n 3, 1) := by decide +kernel
theorem dX8_permitAt_22 : decode cX8_permitAt 22 = .ok (.iload_n 1, 1) := by decide +kernel
theorem dX8_permitAt_23 : decode cX8_permitAt 23 = .ok (.iload_n 2, 1) := by decide +kernel
theorem dX8_permitAt_24 : decode cX8_permitAt 24 = .ok (.invokevirtual 95, 3) := by decide +kernel
theorem dX8_permitAt_27 : decode cX8_permitAt 27 = .ok (.ifCond .eq 5, 3) := by decide +kernel
theorem dX8_permitAt_30 : decode cX8_permitAt 30 = .ok (.iload_n 3, 1) := by decide +kernel
theorem dX8_permitAt_31 : decode cX8_permitAt 31 = .ok (.ireturn, 1) := by decide +kernel
theorem dX8_permitAt_32 : decode cX8_permitAt 32 = .ok (.iinc 3 1, 3) := by decide +kernel
theorem dX8_permitAt_35 : decode cX8_permitAt 35 = .ok (.goto (-33), 3) := by decide +kernel
theorem dX8_permitAt_38 : decode cX8_permitAt 38 = .ok (.iconst (-1), 1) := by decide +kernel
theorem dX8_permitAt_39 : decode cX8_permitAt 39 = .ok (.ireturn, 1) := by decide +kernel
theorem dX8_cell_0 : decode cX8_cell 0 = .ok (.aload_n 0, 1) := by decide +kernel
theorem dX8_cell_1 : decode cX8_cell 1 = .ok (.iload_n 1, 1) := by decide +kernel
theorem dX8_cell_2 : decode cX8_cell 2 = .ok (.iconst 0, 1) := by decide +kernel
theorem dX8_cell_3 : decode cX8_cell 3 = .ok (.bipush 19, 2) := by decide +kernel
theorem dX8_cell_5 : decode cX8_cell 5 = .ok (.invokestatic 49, 3) := by decide +kernel
theorem dX8_cell_8 : decode cX8_cell 8 = .ok (.ifCond .eq 13, 3) := by decide +kernel
theorem dX8_cell_11 : decode cX8_cell 11 = .ok (.iload_n 2, 1) := by decide +kernel
theorem dX8_cell_12 : decode cX8_cell 12 = .ok (.iconst 0, 1) := by decide +kernel
theorem dX8_cell_13 : decode cX8_cell 13 = .ok (.bipush 13, 2) := by decide +kernel
theorem dX8_cell_15 : decode cX8_cell 15 = .ok (.invokestatic 49, 3) := by decide +kernel
theorem dX8_cell_18 : decode cX8_cell 18 = .ok (.ifCond .ne 7, 3) := by decide +kernel
theorem dX8_cell_21 : decode cX8_cell 21 = .ok (.iconst 1, 1) := by decide +kernel
theorem dX8_cell_22 : decode cX8_cell 22 = .ok (.goto 17, 3) := by decide +kernel
theorem dX8_cell_25 : decode cX8_cell 25 = .ok (.iload_n 3, 1) := by decide +kernel
theorem dX8_cell_26 : decode cX8_cell 26 = .ok (.iconst 0, 1) := by decide +kernel
theorem dX8_cell_27 : decode cX8_cell 27 = .ok (.iconst 5, 1) := by decide +kernel
theorem dX8_cell_28 : decode cX8_cell 28 = .ok (.invokestatic 49, 3) := by decide +kernel
theorem dX8_cell_31 : decode cX8_cell 31 = .ok (.ifCond .ne 7, 3) := by decide +kernel
theorem dX8_cell_34 : decode cX8_cell 34 = .ok (.iconst 2, 1) := by decide +kernel
theorem dX8_cell_35 : decode cX8_cell 35 = .ok (.goto 4, 3) := by decide +kernel
theorem dX8_cell_38 : decode cX8_cell 38 = .ok (.iconst 0, 1) := by decide +kernel
theorem dX8_cell_39 : decode cX8_cell 39 = .ok (.putfield 1, 3) := by decide +kernel
theorem dX8_cell_42 : decode cX8_cell 42 = .ok (.aload_n 0, 1) := by decide +kernel
theorem dX8_cell_43 : decode cX8_cell 43 = .ok (.getfield 1, 3) := by decide +kernel
theorem dX8_cell_46 : decode cX8_cell 46 = .ok (.ifCond .eq 5, 3) := by decide +kernel
theorem dX8_cell_49 : decode cX8_cell 49 = .ok (.iconst 0, 1) := by decide +kernel
theorem dX8_cell_50 : decode cX8_cell 50 = .ok (.ireturn, 1) := by decide +kernel
theorem dX8_cell_51 : decode cX8_cell 51 = .ok (.aload_n 0, 1) := by decide +kernel
theorem dX8_cell_52 : decode cX8_cell 52 = .ok (.iload_n 1, 1) := by decide +kernel
theorem dX8_cell_53 : decode cX8_cell 53 = .ok (.iload_n 2, 1) := by decide +kernel
theorem dX8_cell_54 : decode cX8_cell 54 = .ok (.invokevirtual 192, 3) := by decide +kernel
theorem dX8_cell_57 : decode cX8_cell 57 = .ok (.istore 4, 2) := by decide +kernel
theorem dX8_cell_59 : decode cX8_cell 59 = .ok (.iload_n 3, 1) := by decide +kernel
theorem dX8_cell_60 : decode cX8_cell 60 = .ok (.ifCond .ne 8, 3) := by decide +kernel
theorem dX8_cell_63 : decode cX8_cell 63 = .ok (.iload 4, 2) := by decide +kernel
theorem dX8_cell_65 : decode cX8_cell 65 = .ok (.goto 38, 3) := by decide +kernel
theorem dX8_cell_68 : decode cX8_cell 68 = .ok (.iload_n 3, 1) := by decide +kernel
theorem dX8_cell_69 : decode cX8_cell 69 = .ok (.iconst 1, 1) := by decide +kernel
theorem dX8_cell_70 : decode cX8_cell 70 = .ok (.if_icmp .ne 12, 3) := by decide +kernel
theorem dX8_cell_73 : decode cX8_cell 73 = .ok (.aload_n 0, 1) := by decide +kernel
theorem dX8_cell_74 : decode cX8_cell 74 = .ok (.iload_n 1, 1) := by decide +kernel
theorem dX8_cell_75 : decode cX8_cell 75 = .ok (.iload_n 2, 1) := by decide +kernel
theorem dX8_cell_76 : decode cX8_cell 76 = .ok (.invokevirtual 264, 3) := by decide +kernel
theorem dX8_cell_79 : decode cX8_cell 79 = .ok (.goto 24, 3) := by decide +kernel
theorem dX8_cell_82 : decode cX8_cell 82 = .ok (.iload 4, 2) := by decide +kernel
theorem dX8_cell_84 : decode cX8_cell 84 = .ok (.iconst (-1), 1) := by decide +kernel
theorem dX8_cell_85 : decode cX8_cell 85 = .ok (.if_icmp .ne 7, 3) := by decide +kernel
theorem dX8_cell_88 : decode cX8_cell 88 = .ok (.iconst 0, 1) := by decide +kernel
theorem dX8_cell_89 : decode cX8_cell 89 = .ok (.goto 14, 3) := by decide +kernel
theorem dX8_cell_92 : decode cX8_cell 92 = .ok (.aload_n 0, 1) := by decide +kernel
theorem dX8_cell_93 : decode cX8_cell 93 = .ok (.iload 4, 2) := by decide +kernel
theorem dX8_cell_95 : decode cX8_cell 95 = .ok (.iload_n 1, 1) := by decide +kernel
theorem dX8_cell_96 : decode cX8_cell 96 = .ok (.iload_n 2, 1) := by decide +kernel
theorem dX8_cell_97 : decode cX8_cell 97 = .ok (.iload_n 3, 1) := by decide +kernel
theorem dX8_cell_98 : decode cX8_cell 98 = .ok (.iconst 2, 1) := by decide +kernel
theorem dX8_cell_99 : decode cX8_cell 99 = .ok (.isub, 1) := by decide +kernel
theorem dX8_cell_100 : decode cX8_cell 100 = .ok (.invokevirtual 84, 3) := by decide +kernel
theorem dX8_cell_103 : decode cX8_cell 103 = .ok (.ireturn, 1) := by decide +kernel
theorem dX8_largestFrom_0 : decode cX8_largestFrom 0 = .ok (.iconst 0, 1) := by decide +kernel
theorem dX8_largestFrom_1 : decode cX8_largestFrom 1 = .ok (.istore_n 3, 1) := by decide +kernel
theorem dX8_largestFrom_2 : decode cX8_largestFrom 2 = .ok (.bipush 20, 2) := by decide +kernel
theorem dX8_largestFrom_4 : decode cX8_largestFrom 4 = .ok (.iload_n 1, 1) := by decide +kernel
theorem dX8_largestFrom_5 : decode cX8_largestFrom 5 = .ok (.isub, 1) := by decide +kernel
theorem dX8_largestFrom_6 : decode cX8_largestFrom 6 = .ok (.istore 4, 2) := by decide +kernel
theorem dX8_largestFrom_8 : decode cX8_largestFrom 8 = .ok (.iload_n 2, 1) := by decide +kernel
theorem dX8_largestFrom_9 : decode cX8_largestFrom 9 = .ok (.istore 5, 2) := by decide +kernel
theorem dX8_largestFrom_11 : decode cX8_largestFrom 11 = .ok (.iload 5, 2) := by decide +kernel
theorem dX8_largestFrom_13 : decode cX8_largestFrom 13 = .ok (.bipush 14, 2) := by decide +kernel
theorem dX8_largestFrom_15 : decode cX8_largestFrom 15 = .ok (.if_icmp .ge 66, 3) := by decide +kernel
theorem dX8_largestFrom_18 : decode cX8_largestFrom 18 = .ok (.iload 4, 2) := by decide +kernel
theorem dX8_largestFrom_20 : decode cX8_largestFrom 20 = .ok (.ifCond .le 61, 3) := by decide +kernel
theorem dX8_largestFrom_23 : decode cX8_largestFrom 23 = .ok (.iconst 0, 1) := by decide +kernel
theorem dX8_largestFrom_24 : decode cX8_largestFrom 24 = .ok (.istore 6, 2) := by decide +kernel
theorem dX8_largestFrom_26 : decode cX8_largestFrom 26 = .ok (.iload 6, 2) := by decide +kernel
theorem dX8_largestFrom_28 : decode cX8_largestFrom 28 = .ok (.iload 4, 2) := by decide +kernel
theorem dX8_largestFrom_30 : decode cX8_largestFrom 30 = .ok (.if_icmp .ge 27, 3) := by decide +kernel
theorem dX8_largestFrom_33 : decode cX8_largestFrom 33 = .ok (.aload_n 0, 1) := by decide +kernel
theorem dX8_largestFrom_34 : decode cX8_largestFrom 34 = .ok (.getfield 35, 3) := by decide +kernel
theorem dX8_largestFrom_37 : decode cX8_largestFrom 37 = .ok (.bipush 20, 2) := by decide +kernel
theorem dX8_largestFrom_39 : decode cX8_largestFrom 39 = .ok (.iload 5, 2) := by decide +kernel
theorem dX8_largestFrom_41 : decode cX8_largestFrom 41 = .ok (.imul, 1) := by decide +kernel
theorem dX8_largestFrom_42 : decode cX8_largestFrom 42 = .ok (.iload_n 1, 1) := by decide +kernel
theorem dX8_largestFrom_43 : decode cX8_largestFrom 43 = .ok (.iadd, 1) := by decide +kernel
theorem dX8_largestFrom_44 : decode cX8_largestFrom 44 = .ok (.iload 6, 2) := by decide +kernel
theorem dX8_largestFrom_46 : decode cX8_largestFrom 46 = .ok (.iadd, 1) := by decide +kernel
theorem dX8_largestFrom_47 : decode cX8_largestFrom 47 = .ok (.baload, 1) := by decide +kernel
theorem dX8_largestFrom_48 : decode cX8_largestFrom 48 = .ok (.ifCond .eq 9, 3) := by decide +kernel
theorem dX8_largestFrom_51 : decode cX8_largestFrom 51 = .ok (.iinc 6 1, 3) := by decide +kernel
theorem dX8_largestFrom_54 : decode cX8_largestFrom 54 = .ok (.goto (-28), 3) := by decide +kernel
theorem dX8_largestFrom_57 : decode cX8_largestFrom 57 = .ok (.iload 6, 2) := by decide +kernel
theorem dX8_largestFrom_59 : decode cX8_largestFrom 59 = .ok (.istore 4, 2) := by decide +kernel
theorem dX8_largestFrom_61 : decode cX8_largestFrom 61 = .ok (.iload_n 3, 1) := by decide +kernel
theorem dX8_largestFrom_62 : decode cX8_largestFrom 62 = .ok (.iload 4, 2) := by decide +kernel
theorem dX8_largestFrom_64 : decode cX8_largestFrom 64 = .ok (.iload 5, 2) := by decide +kernel
theorem dX8_largestFrom_66 : decode cX8_largestFrom 66 = .ok (.iload_n 2, 1) := by decide +kernel
theorem dX8_largestFrom_67 : decode cX8_largestFrom 67 = .ok (.isub, 1) := by decide +kernel
theorem dX8_largestFrom_68 : decode cX8_largestFrom 68 = .ok (.iconst 1, 1) := by decide +kernel
theorem dX8_largestFrom_69 : decode cX8_largestFrom 69 = .ok (.iadd, 1) := by decide +kernel
theorem dX8_largestFrom_70 : decode cX8_largestFrom 70 = .ok (.imul, 1) := by decide +kernel
theorem dX8_largestFrom_71 : decode cX8_largestFrom 71 = .ok (.invokestatic 76, 3) := by decide +kernel
theorem dX8_largestFrom_74 : decode cX8_largestFrom 74 = .ok (.istore_n 3, 1) := by decide +kernel
theorem dX8_largestFrom_75 : decode cX8_largestFrom 75 = .ok (.iinc 5 1, 3) := by decide +kernel
theorem dX8_largestFrom_78 : decode cX8_largestFrom 78 = .ok (.goto (-67), 3) := by decide +kernel
theorem dX8_largestFrom_81 : decode cX8_largestFrom 81 = .ok (.iload_n 3, 1) := by decide +kernel
theorem dX8_largestFrom_82 : decode cX8_largestFrom 82 = .ok (.ireturn, 1) := by decide +kernel
theorem dX8_largest_0 : decode cX8_largest 0 = .ok (.aload_n 0, 1) := by decide +kernel
theorem dX8_largest_1 : decode cX8_largest 1 = .ok (.iconst 0, 1) := by decide +kernel
theorem dX8_largest_2 : decode cX8_largest 2 = .ok (.putfield 1, 3) := by decide +kernel
theorem dX8_largest_5 : decode cX8_largest 5 = .ok (.aload_n 0, 1) := by decide +kernel
theorem dX8_largest_6 : decode cX8_largest 6 = .ok (.iload_n 1, 1) := by decide +kernel
theorem dX8_largest_7 : decode cX8_largest 7 = .ok (.invokevirtual 252, 3) := by decide +kernel
theorem dX8_largest_10 : decode cX8_largest 10 = .ok (.ifCond .ne 9, 3) := by decide +kernel
theorem dX8_largest_13 : decode cX8_largest 13 = .ok (.aload_n 0, 1) := by decide +kernel
theorem dX8_largest_14 : decode cX8_largest 14 = .ok (.iconst 1, 1) := by decide +kernel
theorem dX8_largest_15 : decode cX8_largest 15 = .ok (.invokevirtual 163, 3) := by decide +kernel
theorem dX8_largest_18 : decode cX8_largest 18 = .ok (.ireturn, 1) := by decide +kernel
theorem dX8_largest_19 : decode cX8_largest 19 = .ok (.aload_n 0, 1) := by decide +kernel
theorem dX8_largest_20 : decode cX8_largest 20 = .ok (.getfield 13, 3) := by decide +kernel
theorem dX8_largest_23 : decode cX8_largest 23 = .ok (.iconst 4, 1) := by decide +kernel
theorem dX8_largest_24 : decode cX8_largest 24 = .ok (.bipush 7, 2) := by decide +kernel
theorem dX8_largest_26 : decode cX8_largest 26 = .ok (.aload_n 0, 1) := by decide +kernel
theorem dX8_largest_27 : decode cX8_largest 27 = .ok (.iload_n 1, 1) := by decide +kernel
theorem dX8_largest_28 : decode cX8_largest 28 = .ok (.iconst 0, 1) := by decide +kernel
theorem dX8_largest_29 : decode cX8_largest 29 = .ok (.invokevirtual 81, 3) := by decide +kernel
theorem dX8_largest_32 : decode cX8_largest 32 = .ok (.imul, 1) := by decide +kernel
theorem dX8_largest_33 : decode cX8_largest 33 = .ok (.iadd, 1) := by decide +kernel
theorem dX8_largest_34 : decode cX8_largest 34 = .ok (.iaload, 1) := by decide +kernel
theorem dX8_largest_35 : decode cX8_largest 35 = .ok (.istore_n 2, 1) := by decide +kernel
theorem dX8_largest_36 : decode cX8_largest 36 = .ok (.aload_n 0, 1) := by decide +kernel
theorem dX8_largest_37 : decode cX8_largest 37 = .ok (.getfield 13, 3) := by decide +kernel
theorem dX8_largest_40 : decode cX8_largest 40 = .ok (.iconst 4, 1) := by decide +kernel
theorem dX8_largest_41 : decode cX8_largest 41 = .ok (.bipush 7, 2) := by decide +kernel
theorem dX8_largest_43 : decode cX8_largest 43 = .ok (.aload_n 0, 1) := by decide +kernel
theorem dX8_largest_44 : decode cX8_largest 44 = .ok (.iload_n 1, 1) := by decide +kernel
theorem dX8_largest_45 : decode cX8_largest 45 = .ok (.iconst 0, 1) := by decide +kernel
theorem dX8_largest_46 : decode cX8_largest 46 = .ok (.invokevirtual 81, 3) := by decide +kernel
theorem dX8_largest_49 : decode cX8_largest 49 = .ok (.imul, 1) := by decide +kernel
theorem dX8_largest_50 : decode cX8_largest 50 = .ok (.iadd, 1) := by decide +kernel
theorem dX8_largest_51 : decode cX8_largest 51 = .ok (.iconst 1, 1) := by decide +kernel
theorem dX8_largest_52 : decode cX8_largest 52 = .ok (.iadd, 1) := by decide +kernel
theorem dX8_largest_53 : decode cX8_largest 53 = .ok (.iaload, 1) := by decide +kernel
theorem dX8_largest_54 : decode cX8_largest 54 = .ok (.istore_n 3, 1) := by decide +kernel
theorem dX8_largest_55 : decode cX8_largest 55 = .ok (.iconst 0, 1) := by decide +kernel
theorem dX8_largest_56 : decode cX8_largest 56 = .ok (.istore 4, 2) := by decide +kernel
theorem dX8_largest_58 : decode cX8_largest 58 = .ok (.iload 4, 2) := by decide +kernel
theorem dX8_largest_60 : decode cX8_largest 60 = .ok (.sipush 280, 3) := by decide +kernel
theorem dX8_largest_63 : decode cX8_largest 63 = .ok (.if_icmp .ge 86, 3) := by decide +kernel
theorem dX8_largest_66 : decode cX8_largest 66 = .ok (.iload 4, 2) := by decide +kernel
theorem dX8_largest_68 : decode cX8_largest 68 = .ok (.bipush 20, 2) := by decide +kernel
theorem dX8_largest_70 : decode cX8_largest 70 = .ok (.irem, 1) := by decide +kernel
theorem dX8_largest_71 : decode cX8_largest 71 = .ok (.istore 5, 2) := by decide +kernel
theorem dX8_largest_73 : decode cX8_largest 73 = .ok (.iload 4, 2) := by decide +kernel
theorem dX8_largest_75 : decode cX8_largest 75 = .ok (.bipush 20, 2) := by decide +kernel
theorem dX8_largest_77 : decode cX8_largest 77 = .ok (.idiv, 1) := by decide +kernel
theorem dX8_largest_78 : decode cX8_largest 78 = .ok (.istore 6, 2) := by decide +kernel
theorem dX8_largest_80 : decode cX8_largest 80 = .ok (.aload_n 0, 1) := by decide +kernel
theorem dX8_largest_81 : decode cX8_largest 81 = .ok (.getfield 35, 3) := by decide +kernel
theorem dX8_largest_84 : decode cX8_largest 84 = .ok (.iload 4, 2) := by decide +kernel
theorem dX8_largest_86 : decode cX8_largest 86 = .ok (.aload_n 0, 1) := by decide +kernel
theorem dX8_largest_87 : decode cX8_largest 87 = .ok (.iload_n 1, 1) := by decide +kernel
theorem dX8_largest_88 : decode cX8_largest 88 = .ok (.iload 5, 2) := by decide +kernel
theorem dX8_largest_90 : decode cX8_largest 90 = .ok (.iload 6, 2) := by decide +kernel
theorem dX8_largest_92 : decode cX8_largest 92 = .ok (.invokevirtual 67, 3) := by decide +kernel
theorem dX8_largest_95 : decode cX8_largest 95 = .ok (.ifCond .eq 46, 3) := by decide +kernel
theorem dX8_largest_98 : decode cX8_largest 98 = .ok (.aload_n 0, 1) := by decide +kernel
theorem dX8_largest_99 : decode cX8_largest 99 = .ok (.iload_n 1, 1) := by decide +kernel
theorem dX8_largest_100 : decode cX8_largest 100 = .ok (.iload 5, 2) := by decide +kernel
theorem dX8_largest_102 : decode cX8_largest 102 = .ok (.iload 6, 2) := by decide +kernel
theorem dX8_largest_104 : decode cX8_largest 104 = .ok (.iconst (-1), 1) := by decide +kernel
theorem dX8_largest_105 : decode cX8_largest 105 = .ok (.invokevirtual 98, 3) := by decide +kernel
theorem dX8_largest_108 : decode cX8_largest 108 = .ok (.ifCond .ne 33, 3) := by decide +kernel
theorem dX8_largest_111 : decode cX8_largest 111 = .ok (.aload_n 0, 1) := by decide +kernel
theorem dX8_largest_112 : decode cX8_largest 112 = .ok (.iload_n 1, 1) := by decide +kernel
theorem dX8_largest_113 : decode cX8_largest 113 = .ok (.iload 5, 2) := by decide +kernel
theorem dX8_largest_115 : decode cX8_largest 115 = .ok (.iload 6, 2) := by decide +kernel
theorem dX8_largest_117 : decode cX8_largest 117 = .ok (.invokevirtual 102, 3) := by decide +kernel
theorem dX8_largest_120 : decode cX8_largest 120 = .ok (.iload_n 2, 1) := by decide +kernel
theorem dX8_largest_121 : decode cX8_largest 121 = .ok (.if_icmp .lt 20, 3) := by decide +kernel
theorem dX8_largest_124 : decode cX8_largest 124 = .ok (.aload_n 0, 1) := by decide +kernel
theorem dX8_largest_125 : decode cX8_largest 125 = .ok (.iload_n 1, 1) := by decide +kernel
theorem dX8_largest_126 : decode cX8_largest 126 = .ok (.iload 5, 2) := by decide +kernel
theorem dX8_largest_128 : decode cX8_largest 128 = .ok (.iload 6, 2) := by decide +kernel
theorem dX8_largest_130 : decode cX8_largest 130 = .ok (.invokevirtual 106, 3) := by decide +kernel
theorem dX8_largest_133 : decode cX8_largest 133 = .ok (.iload_n 3, 1) := by decide +kernel
theorem dX8_largest_134 : decode cX8_largest 134 = .ok (.if_icmp .lt 7, 3) := by decide +kernel
theorem dX8_largest_137 : decode cX8_largest 137 = .ok (.iconst 1, 1) := by decide +kernel
theorem dX8_largest_138 : decode cX8_largest 138 = .ok (.goto 4, 3) := by decide +kernel
theorem dX8_largest_141 : decode cX8_largest 141 = .ok (.iconst 0, 1) := by decide +kernel
theorem dX8_largest_142 : decode cX8_largest 142 = .ok (.bastore, 1) := by decide +kernel
theorem dX8_largest_143 : decode cX8_largest 143 = .ok (.iinc 4 1, 3) := by decide +kernel
theorem dX8_largest_146 : decode cX8_largest 146 = .ok (.goto (-88), 3) := by decide +kernel
theorem dX8_largest_149 : decode cX8_largest 149 = .ok (.iconst 0, 1) := by decide +kernel
theorem dX8_largest_150 : decode cX8_largest 150 = .ok (.istore 4, 2) := by decide +kernel
theorem dX8_largest_152 : decode cX8_largest 152 = .ok (.iconst 0, 1) := by decide +kernel
theorem dX8_largest_153 : decode cX8_largest 153 = .ok (.istore 5, 2) := by decide +kernel
theorem dX8_largest_155 : decode cX8_largest 155 = .ok (.iload 5, 2) := by decide +kernel
theorem dX8_largest_157 : decode cX8_largest 157 = .ok (.sipush 280, 3) := by decide +kernel
theorem dX8_largest_160 : decode cX8_largest 160 = .ok (.if_icmp .ge 30, 3) := by decide +kernel
theorem dX8_largest_163 : decode cX8_largest 163 = .ok (.iload 4, 2) := by decide +kernel
theorem dX8_largest_165 : decode cX8_largest 165 = .ok (.aload_n 0, 1) := by decide +kernel
theorem dX8_largest_166 : decode cX8_largest 166 = .ok (.iload 5, 2) := by decide +kernel
theorem dX8_largest_168 : decode cX8_largest 168 = .ok (.bipush 20, 2) := by decide +kernel
theorem dX8_largest_170 : decode cX8_largest 170 = .ok (.irem, 1) := by decide +kernel
theorem dX8_largest_171 : decode cX8_largest 171 = .ok (.iload 5, 2) := by decide +kernel
theorem dX8_largest_173 : decode cX8_largest 173 = .ok (.bipush 20, 2) := by decide +kernel
theorem dX8_largest_175 : decode cX8_largest 175 = .ok (.idiv, 1) := by decide +kernel
theorem dX8_largest_176 : decode cX8_largest 176 = .ok (.invokevirtual 267, 3) := by decide +kernel
theorem dX8_largest_179 : decode cX8_largest 179 = .ok (.invokestatic 76, 3) := by decide +kernel
theorem dX8_largest_182 : decode cX8_largest 182 = .ok (.istore 4, 2) := by decide +kernel
theorem dX8_largest_184 : decode cX8_largest 184 = .ok (.iinc 5 1, 3) := by decide +kernel
theorem dX8_largest_187 : decode cX8_largest 187 = .ok (.goto (-32), 3) := by decide +kernel
theorem dX8_largest_190 : decode cX8_largest 190 = .ok (.iload 4, 2) := by decide +kernel
theorem dX8_largest_192 : decode cX8_largest 192 = .ok (.ireturn, 1) := by decide +kernel
theorem dX8_openConditions_0 : decode cX8_openConditions 0 = .ok (.iconst 0, 1) := by decide +kernel
theorem dX8_openConditions_1 : decode cX8_openConditions 1 = .ok (.istore_n 2, 1) := by decide +kernel
theorem dX8_openConditions_2 : decode cX8_openConditions 2 = .ok (.iconst 0, 1) := by decide +kernel
theorem dX8_openConditions_3 : decode cX8_openConditions 3 = .ok (.istore_n 3, 1) := by decide +kernel
theorem dX8_openConditions_4 : decode cX8_openConditions 4 = .ok (.iload_n 3, 1) := by decide +kernel
theorem dX8_openConditions_5 : decode cX8_openConditions 5 = .ok (.aload_n 0, 1) := by decide +kernel
theorem dX8_openConditions_6 : decode cX8_openConditions 6 = .ok (.iload_n 1, 1) := by decide +kernel
theorem dX8_openConditions_7 : decode cX8_openConditions 7 = .ok (.invokevirtual 221, 3) := by decide +kernel
theorem dX8_openConditions_10 : decode cX8_openConditions 10 = .ok (.if_icmp .ge 19, 3) := by decide +kernel
theorem dX8_openConditions_13 : decode cX8_openConditions 13 = .ok (.iload_n 2, 1) := by decide +kernel
theorem dX8_openConditions_14 : decode cX8_openConditions 14 = .ok (.aload_n 0, 1) := by decide +kernel
theorem dX8_openConditions_15 : decode cX8_openConditions 15 = .ok (.iload_n 1, 1) := by decide +kernel
theorem dX8_openConditions_16 : decode cX8_openConditions 16 = .ok (.iload_n 3, 1) := by decide +kernel
theorem dX8_openConditions_17 : decode cX8_openConditions 17 = .ok (.iconst 2, 1) := by decide +kernel
theorem dX8_openConditions_18 : decode cX8_openConditions 18 = .ok (.invokevirtual 270, 3) := by decide +kernel
theorem dX8_openConditions_21 : decode cX8_openConditions 21 = .ok (.iadd, 1) := by decide +kernel
theorem dX8_openConditions_22 : decode cX8_openConditions 22 = .ok (.istore_n 2, 1) := by decide +kernel
theorem dX8_openConditions_23 : decode cX8_openConditions 23 = .ok (.iinc 3 1, 3) := by decide +kernel
theorem dX8_openConditions_26 : decode cX8_openConditions 26 = .ok (.goto (-22), 3) := by decide +kernel
theorem dX8_openConditions_29 : decode cX8_openConditions 29 = .ok (.iload_n 2, 1) := by decide +kernel
theorem dX8_openConditions_30 : decode cX8_openConditions 30 = .ok (.ireturn, 1) := by decide +kernel
theorem dX8_permit_0 : decode cX8_permit 0 = .ok (.aload_n 0, 1) := by decide +kernel
theorem dX8_permit_1 : decode cX8_permit 1 = .ok (.aload_n 0, 1) := by decide +kernel
theorem dX8_permit_2 : decode cX8_permit 2 = .ok (.iload_n 1, 1) := by decide +kernel
theorem dX8_permit_3 : decode cX8_permit 3 = .ok (.invokevirtual 273, 3) := by decide +kernel
theorem dX8_permit_6 : decode cX8_permit 6 = .ok (.ifCond .ne 7, 3) := by decide +kernel
theorem dX8_permit_9 : decode cX8_permit 9 = .ok (.iconst 1, 1) := by decide +kernel
theorem dX8_permit_10 : decode cX8_permit 10 = .ok (.goto 18, 3) := by decide +kernel
theorem dX8_permit_13 : decode cX8_permit 13 = .ok (.iload_n 2, 1) := by decide +kernel
theorem dX8_permit_14 : decode cX8_permit 14 = .ok (.iconst 0, 1) := by decide +kernel
theorem dX8_permit_15 : decode cX8_permit 15 = .ok (.bipush 12, 2) := by decide +kernel
theorem dX8_permit_17 : decode cX8_permit 17 = .ok (.invokestatic 49, 3) := by decide +kernel
theorem dX8_permit_20 : decode cX8_permit 20 = .ok (.ifCond .ne 7, 3) := by decide +kernel
theorem dX8_permit_23 : decode cX8_permit 23 = .ok (.iconst 2, 1) := by decide +kernel
theorem dX8_permit_24 : decode cX8_permit 24 = .ok (.goto 4, 3) := by decide +kernel
theorem dX8_permit_27 : decode cX8_permit 27 = .ok (.iconst 0, 1) := by decide +kernel
theorem dX8_permit_28 : decode cX8_permit 28 = .ok (.putfield 1, 3) := by decide +kernel
theorem dX8_permit_31 : decode cX8_permit 31 = .ok (.aload_n 0, 1) := by decide +kernel
theorem dX8_permit_32 : decode cX8_permit 32 = .ok (.getfield 1, 3) := by decide +kernel
theorem dX8_permit_35 : decode cX8_permit 35 = .ok (.ifCond .eq 5, 3) := by decide +kernel
theorem dX8_permit_38 : decode cX8_permit 38 = .ok (.iconst 0, 1) := by decide +kernel
theorem dX8_permit_39 : decode cX8_permit 39 = .ok (.ireturn, 1) := by decide +kernel
theorem dX8_permit_40 : decode cX8_permit 40 = .ok (.iload_n 2, 1) := by decide +kernel
theorem dX8_permit_41 : decode cX8_permit 41 = .ok (.tableswitch 166 0 11 #[63, 71, 78, 85, 93, 101, 107, 113, 121, 129, 152, 160], 63) := by decide +kernel
theorem dX8_permit_104 : decode cX8_permit 104 = .ok (.aload_n 0, 1) := by decide +kernel
theorem dX8_permit_105 : decode cX8_permit 105 = .ok (.iload_n 1, 1) := by decide +kernel
theorem dX8_permit_106 : decode cX8_permit 106 = .ok (.bipush 19, 2) := by decide +kernel
theorem dX8_permit_108 : decode cX8_permit 108 = .ok (.invokevirtual 63, 3) := by decide +kernel
theorem dX8_permit_111 : decode cX8_permit 111 = .ok (.ireturn, 1) := by decide +kernel
theorem dX8_permit_112 : decode cX8_permit 112 = .ok (.aload_n 0, 1) := by decide +kernel
theorem dX8_permit_113 : decode cX8_permit 113 = .ok (.iload_n 1, 1) := by decide +kernel
theorem dX8_permit_114 : decode cX8_permit 114 = .ok (.iconst 0, 1) := by decide +kernel
theorem dX8_permit_115 : decode cX8_permit 115 = .ok (.invokevirtual 63, 3) := by decide +kernel
theorem dX8_permit_118 : decode cX8_permit 118 = .ok (.ireturn, 1) := by decide +kernel
theorem dX8_permit_119 : decode cX8_permit 119 = .ok (.aload_n 0, 1) := by decide +kernel
theorem dX8_permit_120 : decode cX8_permit 120 = .ok (.iload_n 1, 1) := by decide +kernel
theorem dX8_permit_121 : decode cX8_permit 121 = .ok (.iconst 1, 1) := by decide +kernel
theorem dX8_permit_122 : decode cX8_permit 122 = .ok (.invokevirtual 63, 3) := by decide +kernel
theorem dX8_permit_125 : decode cX8_permit 125 = .ok (.ireturn, 1) := by decide +kernel
theorem dX8_permit_126 : decode cX8_permit 126 = .ok (.aload_n 0, 1) := by decide +kernel
theorem dX8_permit_127 : decode cX8_permit 127 = .ok (.iload_n 1, 1) := by decide +kernel
theorem dX8_permit_128 : decode cX8_permit 128 = .ok (.bipush 17, 2) := by decide +kernel
theorem dX8_permit_130 : decode cX8_permit 130 = .ok (.invokevirtual 63, 3) := by decide +kernel
theorem dX8_permit_133 : decode cX8_permit 133 = .ok (.ireturn, 1) := by decide +kernel
theorem dX8_permit_134 : decode cX8_permit 134 = .ok (.aload_n 0, 1) := by decide +kernel
theorem dX8_permit_135 : decode cX8_permit 135 = .ok (.iload_n 1, 1) := by decide +kernel
theorem dX8_permit_136 : decode cX8_permit 136 = .ok (.bipush 18, 2) := by decide +kernel
theorem dX8_permit_138 : decode cX8_permit 138 = .ok (.invokevirtual 63, 3) := by decide +kernel
theorem dX8_permit_141 : decode cX8_permit 141 = .ok (.ireturn, 1) := by decide +kernel
theorem dX8_permit_142 : decode cX8_permit 142 = .ok (.aload_n 0, 1) := by decide +kernel
theorem dX8_permit_143 : decode cX8_permit 143 = .ok (.iload_n 1, 1) := by decide +kernel
theorem dX8_permit_144 : decode cX8_permit 144 = .ok (.invokevirtual 60, 3) := by decide +kernel
theorem dX8_permit_147 : decode cX8_permit 147 = .ok (.ireturn, 1) := by decide +kernel
theorem dX8_permit_148 : decode cX8_permit 148 = .ok (.aload_n 0, 1) := by decide +kernel
theorem dX8_permit_149 : decode cX8_permit 149 = .ok (.iload_n 1, 1) := by decide +kernel
theorem dX8_permit_150 : decode cX8_permit 150 = .ok (.invokevirtual 109, 3) := by decide +kernel
theorem dX8_permit_153 : decode cX8_permit 153 = .ok (.ireturn, 1) := by decide +kernel
theorem dX8_permit_154 : decode cX8_permit 154 = .ok (.aload_n 0, 1) := by decide +kernel
theorem dX8_permit_155 : decode cX8_permit 155 = .ok (.iload_n 1, 1) := by decide +kernel
theorem dX8_permit_156 : decode cX8_permit 156 = .ok (.bipush 20, 2) := by decide +kernel
theorem dX8_permit_158 : decode cX8_permit 158 = .ok (.invokevirtual 63, 3) := by decide +kernel
theorem dX8_permit_161 : decode cX8_permit 161 = .ok (.ireturn, 1) := by decide +kernel
theorem dX8_permit_162 : decode cX8_permit 162 = .ok (.aload_n 0, 1) := by decide +kernel
theorem dX8_permit_163 : decode cX8_permit 163 = .ok (.iload_n 1, 1) := by decide +kernel
theorem dX8_permit_164 : decode cX8_permit 164 = .ok (.bipush 21, 2) := by decide +kernel
theorem dX8_permit_166 : decode cX8_permit 166 = .ok (.invokevirtual 63, 3) := by decide +kernel
theorem dX8_permit_169 : decode cX8_permit 169 = .ok (.ireturn, 1) := by decide +kernel
theorem dX8_permit_170 : decode cX8_permit 170 = .ok (.aload_n 0, 1) := by decide +kernel
theorem dX8_permit_171 : decode cX8_permit 171 = .ok (.iload_n 1, 1) := by decide +kernel
theorem dX8_permit_172 : decode cX8_permit 172 = .ok (.bipush 19, 2) := by decide +kernel
theorem dX8_permit_174 : decode cX8_permit 174 = .ok (.invokevirtual 63, 3) := by decide +kernel
theorem dX8_permit_177 : decode cX8_permit 177 = .ok (.iconst 2, 1) := by decide +kernel
theorem dX8_permit_178 : decode cX8_permit 178 = .ok (.if_icmp .ne 13, 3) := by decide +kernel
theorem dX8_permit_181 : decode cX8_permit 181 = .ok (.aload_n 0, 1) := by decide +kernel
theorem dX8_permit_182 : decode cX8_permit 182 = .ok (.iload_n 1, 1) := by decide +kernel
theorem dX8_permit_183 : decode cX8_permit 183 = .ok (.bipush 22, 2) := by decide +kernel
theorem dX8_permit_185 : decode cX8_permit 185 = .ok (.invokevirtual 63, 3) := by decide +kernel
theorem dX8_permit_188 : decode cX8_permit 188 = .ok (.goto 4, 3) := by decide +kernel
theorem dX8_permit_191 : decode cX8_permit 191 = .ok (.iconst (-1), 1) := by decide +kernel
theorem dX8_permit_192 : decode cX8_permit 192 = .ok (.ireturn, 1) := by decide +kernel
theorem dX8_permit_193 : decode cX8_permit 193 = .ok (.aload_n 0, 1) := by decide +kernel
theorem dX8_permit_194 : decode cX8_permit 194 = .ok (.iload_n 1, 1) := by decide +kernel
theorem dX8_permit_195 : decode cX8_permit 195 = .ok (.bipush 24, 2) := by decide +kernel
theorem dX8_permit_197 : decode cX8_permit 197 = .ok (.invokevirtual 63, 3) := by decide +kernel
theorem dX8_permit_200 : decode cX8_permit 200 = .ok (.ireturn, 1) := by decide +kernel
theorem dX8_permit_201 : decode cX8_permit 201 = .ok (.aload_n 0, 1) := by decide +kernel
theorem dX8_permit_202 : decode cX8_permit 202 = .ok (.iload_n 1, 1) := by decide +kernel
theorem dX8_permit_203 : decode cX8_permit 203 = .ok (.invokevirtual 276, 3) := by decide +kernel
theorem dX8_permit_206 : decode cX8_permit 206 = .ok (.ireturn, 1) := by decide +kernel
theorem dX8_permit_207 : decode cX8_permit 207 = .ok (.aload_n 0, 1) := by decide +kernel
theorem dX8_permit_208 : decode cX8_permit 208 = .ok (.iload_n 1, 1) := by decide +kernel
theorem dX8_permit_209 : decode cX8_permit 209 = .ok (.invokevirtual 221, 3) := by decide +kernel
theorem dX8_permit_212 : decode cX8_permit 212 = .ok (.ireturn, 1) := by decide +kernel
theorem dX8_findings_0 : decode cX8_findings 0 = .ok (.aload_n 0, 1) := by decide +kernel
theorem dX8_findings_1 : decode cX8_findings 1 = .ok (.iconst 0, 1) := by decide +kernel
theorem dX8_findings_2 : decode cX8_findings 2 = .ok (.putfield 1, 3) := by decide +kernel
theorem dX8_findings_5 : decode cX8_findings 5 = .ok (.aload_n 0, 1) := by decide +kernel
theorem dX8_findings_6 : decode cX8_findings 6 = .ok (.iload_n 1, 1) := by decide +kernel
theorem dX8_findings_7 : decode cX8_findings 7 = .ok (.invokevirtual 273, 3) := by decide +kernel
theorem dX8_findings_10 : decode cX8_findings 10 = .ok (.ifCond .ne 9, 3) := by decide +kernel
theorem dX8_findings_13 : decode cX8_findings 13 = .ok (.aload_n 0, 1) := by decide +kernel
theorem dX8_findings_14 : decode cX8_findings 14 = .ok (.iconst 1, 1) := by decide +kernel
theorem dX8_findings_15 : decode cX8_findings 15 = .ok (.invokevirtual 163, 3) := by decide +kernel
theorem dX8_findings_18 : decode cX8_findings 18 = .ok (.ireturn, 1) := by decide +kernel
theorem dX8_findings_19 : decode cX8_findings 19 = .ok (.aload_n 0, 1) := by decide +kernel
theorem dX8_findings_20 : decode cX8_findings 20 = .ok (.iload_n 1, 1) := by decide +kernel
theorem dX8_findings_21 : decode cX8_findings 21 = .ok (.invokevirtual 279, 3) := by decide +kernel
theorem dX8_findings_24 : decode cX8_findings 24 = .ok (.iload_n 2, 1) := by decide +kernel
theorem dX8_findings_25 : decode cX8_findings 25 = .ok (.ifCond .eq 10, 3) := by decide +kernel
theorem dX8_findings_28 : decode cX8_findings 28 = .ok (.aload_n 0, 1) := by decide +kernel
theorem dX8_findings_29 : decode cX8_findings 29 = .ok (.getfield 142, 3) := by decide +kernel
theorem dX8_findings_32 : decode cX8_findings 32 = .ok (.goto 7, 3) := by decide +kernel
theorem dX8_findings_35 : decode cX8_findings 35 = .ok (.aload_n 0, 1) := by decide +kernel
theorem dX8_findings_36 : decode cX8_findings 36 = .ok (.getfield 139, 3) := by decide +kernel
theorem dX8_findings_39 : decode cX8_findings 39 = .ok (.ireturn, 1) := by decide +kernel
theorem dX8_finding_0 : decode cX8_finding 0 = .ok (.aload_n 0, 1) := by decide +kernel
theorem dX8_finding_1 : decode cX8_finding 1 = .ok (.aload_n 0, 1) := by decide +kernel
theorem dX8_finding_2 : decode cX8_finding 2 = .ok (.iload_n 1, 1) := by decide +kernel
theorem dX8_finding_3 : decode cX8_finding 3 = .ok (.invokevirtual 273, 3) := by decide +kernel
theorem dX8_finding_6 : decode cX8_finding 6 = .ok (.ifCond .ne 7, 3) := by decide +kernel
theorem dX8_finding_9 : decode cX8_finding 9 = .ok (.iconst 1, 1) := by decide +kernel
theorem dX8_finding_10 : decode cX8_finding 10 = .ok (.goto 27, 3) := by decide +kernel
theorem dX8_finding_13 : decode cX8_finding 13 = .ok (.iload_n 2, 1) := by decide +kernel
theorem dX8_finding_14 : decode cX8_finding 14 = .ok (.iconst 0, 1) := by decide +kernel
theorem dX8_finding_15 : decode cX8_finding 15 = .ok (.bipush 8, 2) := by decide +kernel
theorem dX8_finding_17 : decode cX8_finding 17 = .ok (.invokestatic 49, 3) := by decide +kernel
theorem dX8_finding_20 : decode cX8_finding 20 = .ok (.ifCond .eq 12, 3) := by decide +kernel
theorem dX8_finding_23 : decode cX8_finding 23 = .ok (.iload_n 3, 1) := by decide +kernel
theorem dX8_finding_24 : decode cX8_finding 24 = .ok (.iconst 0, 1) := by decide +kernel
theorem dX8_finding_25 : decode cX8_finding 25 = .ok (.iconst 2, 1) := by decide +kernel
theorem dX8_finding_26 : decode cX8_finding 26 = .ok (.invokestatic 49, 3) := by decide +kernel
theorem dX8_finding_29 : decode cX8_finding 29 = .ok (.ifCond .ne 7, 3) := by decide +kernel
theorem dX8_finding_32 : decode cX8_finding 32 = .ok (.iconst 2, 1) := by decide +kernel
theorem dX8_finding_33 : decode cX8_finding 33 = .ok (.goto 4, 3) := by decide +kernel
theorem dX8_finding_36 : decode cX8_finding 36 = .ok (.iconst 0, 1) := by decide +kernel
theorem dX8_finding_37 : decode cX8_finding 37 = .ok (.putfield 1, 3) := by decide +kernel
theorem dX8_finding_40 : decode cX8_finding 40 = .ok (.aload_n 0, 1) := by decide +kernel
theorem dX8_finding_41 : decode cX8_finding 41 = .ok (.getfield 1, 3) := by decide +kernel
theorem dX8_finding_44 : decode cX8_finding 44 = .ok (.ifCond .eq 5, 3) := by decide +kernel
theorem dX8_finding_47 : decode cX8_finding 47 = .ok (.iconst 0, 1) := by decide +kernel
theorem dX8_finding_48 : decode cX8_finding 48 = .ok (.ireturn, 1) := by decide +kernel
theorem dX8_finding_49 : decode cX8_finding 49 = .ok (.aload_n 0, 1) := by decide +kernel
theorem dX8_finding_50 : decode cX8_finding 50 = .ok (.iload_n 1, 1) := by decide +kernel
theorem dX8_finding_51 : decode cX8_finding 51 = .ok (.iload_n 2, 1) := by decide +kernel
theorem dX8_finding_52 : decode cX8_finding 52 = .ok (.invokevirtual 151, 3) := by decide +kernel
theorem dX8_finding_55 : decode cX8_finding 55 = .ok (.istore 4, 2) := by decide +kernel
theorem dX8_finding_57 : decode cX8_finding 57 = .ok (.aload_n 0, 1) := by decide +kernel
theorem dX8_finding_58 : decode cX8_finding 58 = .ok (.iload_n 1, 1) := by decide +kernel
theorem dX8_finding_59 : decode cX8_finding 59 = .ok (.iload_n 2, 1) := by decide +kernel
theorem dX8_finding_60 : decode cX8_finding 60 = .ok (.invokevirtual 154, 3) := by decide +kernel
theorem dX8_finding_63 : decode cX8_finding 63 = .ok (.istore 5, 2) := by decide +kernel
theorem dX8_finding_65 : decode cX8_finding 65 = .ok (.iload_n 3, 1) := by decide +kernel
theorem dX8_finding_66 : decode cX8_finding 66 = .ok (.ifCond .ne 8, 3) := by decide +kernel
theorem dX8_finding_69 : decode cX8_finding 69 = .ok (.iload 4, 2) := by decide +kernel
theorem dX8_finding_71 : decode cX8_finding 71 = .ok (.goto 38, 3) := by decide +kernel
theorem dX8_finding_74 : decode cX8_finding 74 = .ok (.iload_n 3, 1) := by decide +kernel
theorem dX8_finding_75 : decode cX8_finding 75 = .ok (.iconst 1, 1) := by decide +kernel
theorem dX8_finding_76 : decode cX8_finding 76 = .ok (.if_icmp .ne 8, 3) := by decide +kernel
theorem dX8_finding_79 : decode cX8_finding 79 = .ok (.iload 5, 2) := by decide +kernel
theorem dX8_finding_81 : decode cX8_finding 81 = .ok (.goto 28, 3) := by decide +kernel
theorem dX8_finding_84 : decode cX8_finding 84 = .ok (.iload_n 2, 1) := by decide +kernel
theorem dX8_finding_85 : decode cX8_finding 85 = .ok (.iload 4, 2) := by decide +kernel
theorem dX8_finding_87 : decode cX8_finding 87 = .ok (.iload 5, 2) := by decide +kernel
theorem dX8_finding_89 : decode cX8_finding 89 = .ok (.invokestatic 127, 3) := by decide +kernel
theorem dX8_finding_92 : decode cX8_finding 92 = .ok (.ifCond .eq 16, 3) := by decide +kernel
theorem dX8_finding_95 : decode cX8_finding 95 = .ok (.aload_n 0, 1) := by decide +kernel
theorem dX8_finding_96 : decode cX8_finding 96 = .ok (.iload_n 1, 1) := by decide +kernel
theorem dX8_finding_97 : decode cX8_finding 97 = .ok (.iload_n 2, 1) := by decide +kernel
theorem dX8_finding_98 : decode cX8_finding 98 = .ok (.iload 4, 2) := by decide +kernel
theorem dX8_finding_100 : decode cX8_finding 100 = .ok (.iload 5, 2) := by decide +kernel
theorem dX8_finding_102 : decode cX8_finding 102 = .ok (.invokevirtual 157, 3) := by decide +kernel
theorem dX8_finding_105 : decode cX8_finding 105 = .ok (.goto 4, 3) := by decide +kernel
theorem dX8_finding_108 : decode cX8_finding 108 = .ok (.iconst (-1), 1) := by decide +kernel
theorem dX8_finding_109 : decode cX8_finding 109 = .ok (.ireturn, 1) := by decide +kernel
theorem dX8_bits_0 : decode cX8_bits 0 = .ok (.iconst 0, 1) := by decide +kernel
theorem dX8_bits_1 : decode cX8_bits 1 = .ok (.istore_n 1, 1) := by decide +kernel
theorem dX8_bits_2 : decode cX8_bits 2 = .ok (.iload_n 0, 1) := by decide +kernel
theorem dX8_bits_3 : decode cX8_bits 3 = .ok (.istore_n 2, 1) := by decide +kernel
theorem dX8_bits_4 : decode cX8_bits 4 = .ok (.iload_n 2, 1) := by decide +kernel
theorem dX8_bits_5 : decode cX8_bits 5 = .ok (.ifCond .eq 15, 3) := by decide +kernel
theorem dX8_bits_8 : decode cX8_bits 8 = .ok (.iinc 1 1, 3) := by decide +kernel
theorem dX8_bits_11 : decode cX8_bits 11 = .ok (.iload_n 2, 1) := by decide +kernel
theorem dX8_bits_12 : decode cX8_bits 12 = .ok (.iload_n 2, 1) := by decide +kernel
theorem dX8_bits_13 : decode cX8_bits 13 = .ok (.iconst 1, 1) := by decide +kernel
theorem dX8_bits_14 : decode cX8_bits 14 = .ok (.isub, 1) := by decide +kernel
theorem dX8_bits_15 : decode cX8_bits 15 = .ok (.iand, 1) := by decide +kernel
theorem dX8_bits_16 : decode cX8_bits 16 = .ok (.istore_n 2, 1) := by decide +kernel
theorem dX8_bits_17 : decode cX8_bits 17 = .ok (.goto (-13), 3) := by decide +kernel
theorem dX8_bits_20 : decode cX8_bits 20 = .ok (.iload_n 1, 1) := by decide +kernel
theorem dX8_bits_21 : decode cX8_bits 21 = .ok (.ireturn, 1) := by decide +kernel
theorem dX8_worst_0 : decode cX8_worst 0 = .ok (.aload_n 0, 1) := by decide +kernel
theorem dX8_worst_1 : decode cX8_worst 1 = .ok (.iconst 0, 1) := by decide +kernel
theorem dX8_worst_2 : decode cX8_worst 2 = .ok (.putfield 1, 3) := by decide +kernel
theorem dX8_worst_5 : decode cX8_worst 5 = .ok (.iconst (-1), 1) := by decide +kernel
theorem dX8_worst_6 : decode cX8_worst 6 = .ok (.istore_n 1, 1) := by decide +kernel
theorem dX8_worst_7 : decode cX8_worst 7 = .ok (.iconst 0, 1) := by decide +kernel
theorem dX8_worst_8 : decode cX8_worst 8 = .ok (.istore_n 2, 1) := by decide +kernel
theorem dX8_worst_9 : decode cX8_worst 9 = .ok (.iconst 0, 1) := by decide +kernel
theorem dX8_worst_10 : decode cX8_worst 10 = .ok (.istore_n 3, 1) := by decide +kernel
theorem dX8_worst_11 : decode cX8_worst 11 = .ok (.iload_n 3, 1) := by decide +kernel
theorem dX8_worst_12 : decode cX8_worst 12 = .ok (.aload_n 0, 1) := by decide +kernel
theorem dX8_worst_13 : decode cX8_worst 13 = .ok (.getfield 13, 3) := by decide +kernel
theorem dX8_worst_16 : decode cX8_worst 16 = .ok (.iconst 2, 1) := by decide +kernel
theorem dX8_worst_17 : decode cX8_worst 17 = .ok (.iaload, 1) := by decide +kernel
theorem dX8_worst_18 : decode cX8_worst 18 = .ok (.if_icmp .ge 57, 3) := by decide +kernel
theorem dX8_worst_21 : decode cX8_worst 21 = .ok (.aload_n 0, 1) := by decide +kernel
theorem dX8_worst_22 : decode cX8_worst 22 = .ok (.iload_n 3, 1) := by decide +kernel
theorem dX8_worst_23 : decode cX8_worst 23 = .ok (.invokevirtual 91, 3) := by decide +kernel
theorem dX8_worst_26 : decode cX8_worst 26 = .ok (.ifCond .eq 43, 3) := by decide +kernel
theorem dX8_worst_29 : decode cX8_worst 29 = .ok (.aload_n 0, 1) := by decide +kernel
theorem dX8_worst_30 : decode cX8_worst 30 = .ok (.iload_n 3, 1) := by decide +kernel
theorem dX8_worst_31 : decode cX8_worst 31 = .ok (.invokevirtual 279, 3) := by decide +kernel
theorem dX8_worst_34 : decode cX8_worst 34 = .ok (.aload_n 0, 1) := by decide +kernel
theorem dX8_worst_35 : decode cX8_worst 35 = .ok (.getfield 139, 3) := by decide +kernel
theorem dX8_worst_38 : decode cX8_worst 38 = .ok (.aload_n 0, 1) := by decide +kernel
theorem dX8_worst_39 : decode cX8_worst 39 = .ok (.getfield 142, 3) := by decide +kernel
theorem dX8_worst_42 : decode cX8_worst 42 = .ok (.iconst (-1), 1) := by decide +kernel
theorem dX8_worst_43 : decode cX8_worst 43 = .ok (.ixor, 1) := by decide +kernel
theorem dX8_worst_44 : decode cX8_worst 44 = .ok (.iand, 1) := by decide +kernel
theorem dX8_worst_45 : decode cX8_worst 45 = .ok (.invokestatic 282, 3) := by decide +kernel
theorem dX8_worst_48 : decode cX8_worst 48 = .ok (.istore 4, 2) := by decide +kernel
theorem dX8_worst_50 : decode cX8_worst 50 = .ok (.iload 4, 2) := by decide +kernel
theorem dX8_worst_52 : decode cX8_worst 52 = .ok (.iload_n 2, 1) := by decide +kernel
theorem dX8_worst_53 : decode cX8_worst 53 = .ok (.if_icmp .le 7, 3) := by decide +kernel
theorem dX8_worst_56 : decode cX8_worst 56 = .ok (.iload_n 3, 1) := by decide +kernel
theorem dX8_worst_57 : decode cX8_worst 57 = .ok (.goto 4, 3) := by decide +kernel
theorem dX8_worst_60 : decode cX8_worst 60 = .ok (.iload_n 1, 1) := by decide +kernel
theorem dX8_worst_61 : decode cX8_worst 61 = .ok (.istore_n 1, 1) := by decide +kernel
theorem dX8_worst_62 : decode cX8_worst 62 = .ok (.iload_n 2, 1) := by decide +kernel
theorem dX8_worst_63 : decode cX8_worst 63 = .ok (.iload 4, 2) := by decide +kernel
theorem dX8_worst_65 : decode cX8_worst 65 = .ok (.invokestatic 76, 3) := by decide +kernel
theorem dX8_worst_68 : decode cX8_worst 68 = .ok (.istore_n 2, 1) := by decide +kernel
theorem dX8_worst_69 : decode cX8_worst 69 = .ok (.iinc 3 1, 3) := by decide +kernel
theorem dX8_worst_72 : decode cX8_worst 72 = .ok (.goto (-61), 3) := by decide +kernel
theorem dX8_worst_75 : decode cX8_worst 75 = .ok (.iload_n 1, 1) := by decide +kernel
theorem dX8_worst_76 : decode cX8_worst 76 = .ok (.iconst (-1), 1) := by decide +kernel
theorem dX8_worst_77 : decode cX8_worst 77 = .ok (.if_icmp .ne 11, 3) := by decide +kernel
theorem dX8_worst_80 : decode cX8_worst 80 = .ok (.aload_n 0, 1) := by decide +kernel
theorem dX8_worst_81 : decode cX8_worst 81 = .ok (.iconst 1, 1) := by decide +kernel
theorem dX8_worst_82 : decode cX8_worst 82 = .ok (.invokevirtual 163, 3) := by decide +kernel
theorem dX8_worst_85 : decode cX8_worst 85 = .ok (.goto 4, 3) := by decide +kernel
theorem dX8_worst_88 : decode cX8_worst 88 = .ok (.iload_n 1, 1) := by decide +kernel
theorem dX8_worst_89 : decode cX8_worst 89 = .ok (.ireturn, 1) := by decide +kernel
theorem dX8_lowest_0 : decode cX8_lowest 0 = .ok (.iconst 0, 1) := by decide +kernel
theorem dX8_lowest_1 : decode cX8_lowest 1 = .ok (.istore_n 1, 1) := by decide +kernel
theorem dX8_lowest_2 : decode cX8_lowest 2 = .ok (.iload_n 0, 1) := by decide +kernel
theorem dX8_lowest_3 : decode cX8_lowest 3 = .ok (.iload_n 1, 1) := by decide +kernel
theorem dX8_lowest_4 : decode cX8_lowest 4 = .ok (.ishr, 1) := by decide +kernel
theorem dX8_lowest_5 : decode cX8_lowest 5 = .ok (.iconst 1, 1) := by decide +kernel
theorem dX8_lowest_6 : decode cX8_lowest 6 = .ok (.iand, 1) := by decide +kernel
theorem dX8_lowest_7 : decode cX8_lowest 7 = .ok (.ifCond .ne 9, 3) := by decide +kernel
theorem dX8_lowest_10 : decode cX8_lowest 10 = .ok (.iinc 1 1, 3) := by decide +kernel
theorem dX8_lowest_13 : decode cX8_lowest 13 = .ok (.goto (-11), 3) := by decide +kernel
theorem dX8_lowest_16 : decode cX8_lowest 16 = .ok (.iload_n 1, 1) := by decide +kernel
theorem dX8_lowest_17 : decode cX8_lowest 17 = .ok (.ireturn, 1) := by decide +kernel
theorem dX8_pay_0 : decode cX8_pay 0 = .ok (.aload_n 0, 1) := by decide +kernel
theorem dX8_pay_1 : decode cX8_pay 1 = .ok (.iload_n 1, 1) := by decide +kernel
theorem dX8_pay_2 : decode cX8_pay 2 = .ok (.bipush 25, 2) := by decide +kernel
theorem dX8_pay_4 : decode cX8_pay 4 = .ok (.aload_n 0, 1) := by decide +kernel
theorem dX8_pay_5 : decode cX8_pay 5 = .ok (.iload_n 1, 1) := by decide +kernel
theorem dX8_pay_6 : decode cX8_pay 6 = .ok (.bipush 25, 2) := by decide +kernel
theorem dX8_pay_8 : decode cX8_pay 8 = .ok (.invokevirtual 63, 3) := by decide +kernel
theorem dX8_pay_11 : decode cX8_pay 11 = .ok (.iload_n 2, 1) := by decide +kernel
theorem dX8_pay_12 : decode cX8_pay 12 = .ok (.iadd, 1) := by decide +kernel
theorem dX8_pay_13 : decode cX8_pay 13 = .ok (.invokevirtual 214, 3) := by decide +kernel
theorem dX8_pay_16 : decode cX8_pay 16 = .ok (.return_, 1) := by decide +kernel
theorem dX8_giveBack_0 : decode cX8_giveBack 0 = .ok (.aload_n 0, 1) := by decide +kernel
theorem dX8_giveBack_1 : decode cX8_giveBack 1 = .ok (.iload_n 1, 1) := by decide +kernel
theorem dX8_giveBack_2 : decode cX8_giveBack 2 = .ok (.bipush 26, 2) := by decide +kernel
theorem dX8_giveBack_4 : decode cX8_giveBack 4 = .ok (.aload_n 0, 1) := by decide +kernel
theorem dX8_giveBack_5 : decode cX8_giveBack 5 = .ok (.iload_n 1, 1) := by decide +kernel
theorem dX8_giveBack_6 : decode cX8_giveBack 6 = .ok (.bipush 26, 2) := by decide +kernel
theorem dX8_giveBack_8 : decode cX8_giveBack 8 = .ok (.invokevirtual 63, 3) := by decide +kernel
theorem dX8_giveBack_11 : decode cX8_giveBack 11 = .ok (.iload_n 2, 1) := by decide +kernel
theorem dX8_giveBack_12 : decode cX8_giveBack 12 = .ok (.iadd, 1) := by decide +kernel
theorem dX8_giveBack_13 : decode cX8_giveBack 13 = .ok (.invokevirtual 214, 3) := by decide +kernel
theorem dX8_giveBack_16 : decode cX8_giveBack 16 = .ok (.return_, 1) := by decide +kernel
theorem dX8_decide_0 : decode cX8_decide 0 = .ok (.aload_n 0, 1) := by decide +kernel
theorem dX8_decide_1 : decode cX8_decide 1 = .ok (.aload_n 0, 1) := by decide +kernel
theorem dX8_decide_2 : decode cX8_decide 2 = .ok (.iload_n 1, 1) := by decide +kernel
theorem dX8_decide_3 : decode cX8_decide 3 = .ok (.invokevirtual 273, 3) := by decide +kernel
theorem dX8_decide_6 : decode cX8_decide 6 = .ok (.ifCond .ne 7, 3) := by decide +kernel
theorem dX8_decide_9 : decode cX8_decide 9 = .ok (.iconst 1, 1) := by decide +kernel
theorem dX8_decide_10 : decode cX8_decide 10 = .ok (.goto 18, 3) := by decide +kernel
theorem dX8_decide_13 : decode cX8_decide 13 = .ok (.aload_n 0, 1) := by decide +kernel
theorem dX8_decide_14 : decode cX8_decide 14 = .ok (.iload_n 1, 1) := by decide +kernel
theorem dX8_decide_15 : decode cX8_decide 15 = .ok (.bipush 19, 2) := by decide +kernel
theorem dX8_decide_17 : decode cX8_decide 17 = .ok (.invokevirtual 63, 3) := by decide +kernel
theorem dX8_decide_20 : decode cX8_decide 20 = .ok (.ifCond .eq 7, 3) := by decide +kernel
theorem dX8_decide_23 : decode cX8_decide 23 = .ok (.iconst 2, 1) := by decide +kernel
theorem dX8_decide_24 : decode cX8_decide 24 = .ok (.goto 4, 3) := by decide +kernel
theorem dX8_decide_27 : decode cX8_decide 27 = .ok (.iconst 0, 1) := by decide +kernel
theorem dX8_decide_28 : decode cX8_decide 28 = .ok (.putfield 1, 3) := by decide +kernel
theorem dX8_decide_31 : decode cX8_decide 31 = .ok (.aload_n 0, 1) := by decide +kernel
theorem dX8_decide_32 : decode cX8_decide 32 = .ok (.getfield 1, 3) := by decide +kernel
theorem dX8_decide_35 : decode cX8_decide 35 = .ok (.ifCond .eq 5, 3) := by decide +kernel
theorem dX8_decide_38 : decode cX8_decide 38 = .ok (.iconst 0, 1) := by decide +kernel
theorem dX8_decide_39 : decode cX8_decide 39 = .ok (.ireturn, 1) := by decide +kernel
theorem dX8_decide_40 : decode cX8_decide 40 = .ok (.aload_n 0, 1) := by decide +kernel
theorem dX8_decide_41 : decode cX8_decide 41 = .ok (.invokevirtual 261, 3) := by decide +kernel
theorem dX8_decide_44 : decode cX8_decide 44 = .ok (.aload_n 0, 1) := by decide +kernel
theorem dX8_decide_45 : decode cX8_decide 45 = .ok (.iload_n 1, 1) := by decide +kernel
theorem dX8_decide_46 : decode cX8_decide 46 = .ok (.invokevirtual 279, 3) := by decide +kernel
theorem dX8_decide_49 : decode cX8_decide 49 = .ok (.aload_n 0, 1) := by decide +kernel
theorem dX8_decide_50 : decode cX8_decide 50 = .ok (.getfield 139, 3) := by decide +kernel
theorem dX8_decide_53 : decode cX8_decide 53 = .ok (.aload_n 0, 1) := by decide +kernel
theorem dX8_decide_54 : decode cX8_decide 54 = .ok (.getfield 142, 3) := by decide +kernel
theorem dX8_decide_57 : decode cX8_decide 57 = .ok (.iconst (-1), 1) := by decide +kernel
theorem dX8_decide_58 : decode cX8_decide 58 = .ok (.ixor, 1) := by decide +kernel
theorem dX8_decide_59 : decode cX8_decide 59 = .ok (.iand, 1) := by decide +kernel
theorem dX8_decide_60 : decode cX8_decide 60 = .ok (.istore_n 2, 1) := by decide +kernel
theorem dX8_decide_61 : decode cX8_decide 61 = .ok (.iload_n 2, 1) := by decide +kernel
theorem dX8_decide_62 : decode cX8_decide 62 = .ok (.ifCond .ne 53, 3) := by decide +kernel
theorem dX8_decide_65 : decode cX8_decide 65 = .ok (.aload_n 0, 1) := by decide +kernel
theorem dX8_decide_66 : decode cX8_decide 66 = .ok (.iload_n 1, 1) := by decide +kernel
theorem dX8_decide_67 : decode cX8_decide 67 = .ok (.bipush 19, 2) := by decide +kernel
theorem dX8_decide_69 : decode cX8_decide 69 = .ok (.iconst 2, 1) := by decide +kernel
theorem dX8_decide_70 : decode cX8_decide 70 = .ok (.invokevirtual 214, 3) := by decide +kernel
theorem dX8_decide_73 : decode cX8_decide 73 = .ok (.aload_n 0, 1) := by decide +kernel
theorem dX8_decide_74 : decode cX8_decide 74 = .ok (.iload_n 1, 1) := by decide +kernel
theorem dX8_decide_75 : decode cX8_decide 75 = .ok (.bipush 24, 2) := by decide +kernel
theorem dX8_decide_77 : decode cX8_decide 77 = .ok (.aload_n 0, 1) := by decide +kernel
theorem dX8_decide_78 : decode cX8_decide 78 = .ok (.getfield 145, 3) := by decide +kernel
theorem dX8_decide_81 : decode cX8_decide 81 = .ok (.invokevirtual 214, 3) := by decide +kernel
theorem dX8_decide_84 : decode cX8_decide 84 = .ok (.aload_n 0, 1) := by decide +kernel
theorem dX8_decide_85 : decode cX8_decide 85 = .ok (.iload_n 1, 1) := by decide +kernel
theorem dX8_decide_86 : decode cX8_decide 86 = .ok (.bipush 22, 2) := by decide +kernel
theorem dX8_decide_88 : decode cX8_decide 88 = .ok (.aload_n 0, 1) := by decide +kernel
theorem dX8_decide_89 : decode cX8_decide 89 = .ok (.getfield 13, 3) := by decide +kernel
theorem dX8_decide_92 : decode cX8_decide 92 = .ok (.iconst 0, 1) := by decide +kernel
theorem dX8_decide_93 : decode cX8_decide 93 = .ok (.iaload, 1) := by decide +kernel
theorem dX8_decide_94 : decode cX8_decide 94 = .ok (.bipush 30, 2) := by decide +kernel
theorem dX8_decide_96 : decode cX8_decide 96 = .ok (.iadd, 1) := by decide +kernel
theorem dX8_decide_97 : decode cX8_decide 97 = .ok (.invokevirtual 214, 3) := by decide +kernel
theorem dX8_decide_100 : decode cX8_decide 100 = .ok (.aload_n 0, 1) := by decide +kernel
theorem dX8_decide_101 : decode cX8_decide 101 = .ok (.iload_n 1, 1) := by decide +kernel
theorem dX8_decide_102 : decode cX8_decide 102 = .ok (.bipush 10, 2) := by decide +kernel
theorem dX8_decide_104 : decode cX8_decide 104 = .ok (.aload_n 0, 1) := by decide +kernel
theorem dX8_decide_105 : decode cX8_decide 105 = .ok (.getfield 148, 3) := by decide +kernel
theorem dX8_decide_108 : decode cX8_decide 108 = .ok (.imul, 1) := by decide +kernel
theorem dX8_decide_109 : decode cX8_decide 109 = .ok (.invokevirtual 285, 3) := by decide +kernel
theorem dX8_decide_112 : decode cX8_decide 112 = .ok (.goto 37, 3) := by decide +kernel
theorem dX8_decide_115 : decode cX8_decide 115 = .ok (.aload_n 0, 1) := by decide +kernel
theorem dX8_decide_116 : decode cX8_decide 116 = .ok (.iload_n 1, 1) := by decide +kernel
theorem dX8_decide_117 : decode cX8_decide 117 = .ok (.bipush 19, 2) := by decide +kernel
theorem dX8_decide_119 : decode cX8_decide 119 = .ok (.iconst 1, 1) := by decide +kernel
theorem dX8_decide_120 : decode cX8_decide 120 = .ok (.invokevirtual 214, 3) := by decide +kernel
theorem dX8_decide_123 : decode cX8_decide 123 = .ok (.aload_n 0, 1) := by decide +kernel
theorem dX8_decide_124 : decode cX8_decide 124 = .ok (.iload_n 1, 1) := by decide +kernel
theorem dX8_decide_125 : decode cX8_decide 125 = .ok (.bipush 27, 2) := by decide +kernel
theorem dX8_decide_127 : decode cX8_decide 127 = .ok (.iload_n 2, 1) := by decide +kernel
theorem dX8_decide_128 : decode cX8_decide 128 = .ok (.invokestatic 289, 3) := by decide +kernel
theorem dX8_decide_131 : decode cX8_decide 131 = .ok (.invokevirtual 214, 3) := by decide +kernel
theorem dX8_decide_134 : decode cX8_decide 134 = .ok (.aload_n 0, 1) := by decide +kernel
theorem dX8_decide_135 : decode cX8_decide 135 = .ok (.iload_n 1, 1) := by decide +kernel
theorem dX8_decide_136 : decode cX8_decide 136 = .ok (.bipush 20, 2) := by decide +kernel
theorem dX8_decide_138 : decode cX8_decide 138 = .ok (.aload_n 0, 1) := by decide +kernel
theorem dX8_decide_139 : decode cX8_decide 139 = .ok (.iload_n 1, 1) := by decide +kernel
theorem dX8_decide_140 : decode cX8_decide 140 = .ok (.invokevirtual 109, 3) := by decide +kernel
theorem dX8_decide_143 : decode cX8_decide 143 = .ok (.iadd, 1) := by decide +kernel
theorem dX8_decide_144 : decode cX8_decide 144 = .ok (.iconst 2, 1) := by decide +kernel
theorem dX8_decide_145 : decode cX8_decide 145 = .ok (.idiv, 1) := by decide +kernel
theorem dX8_decide_146 : decode cX8_decide 146 = .ok (.invokevirtual 292, 3) := by decide +kernel
theorem dX8_decide_149 : decode cX8_decide 149 = .ok (.aload_n 0, 1) := by decide +kernel
theorem dX8_decide_150 : decode cX8_decide 150 = .ok (.iload_n 1, 1) := by decide +kernel
theorem dX8_decide_151 : decode cX8_decide 151 = .ok (.bipush 19, 2) := by decide +kernel
theorem dX8_decide_153 : decode cX8_decide 153 = .ok (.invokevirtual 63, 3) := by decide +kernel
theorem dX8_decide_156 : decode cX8_decide 156 = .ok (.ireturn, 1) := by decide +kernel
theorem dX8_reason_0 : decode cX8_reason 0 = .ok (.aload_n 0, 1) := by decide +kernel
theorem dX8_reason_1 : decode cX8_reason 1 = .ok (.aload_n 0, 1) := by decide +kernel
theorem dX8_reason_2 : decode cX8_reason 2 = .ok (.iload_n 1, 1) := by decide +kernel
theorem dX8_reason_3 : decode cX8_reason 3 = .ok (.invokevirtual 273, 3) := by decide +kernel
theorem dX8_reason_6 : decode cX8_reason 6 = .ok (.ifCond .ne 7, 3) := by decide +kernel
theorem dX8_reason_9 : decode cX8_reason 9 = .ok (.iconst 1, 1) := by decide +kernel
theorem dX8_reason_10 : decode cX8_reason 10 = .ok (.goto 19, 3) := by decide +kernel
theorem dX8_reason_13 : decode cX8_reason 13 = .ok (.aload_n 0, 1) := by decide +kernel
theorem dX8_reason_14 : decode cX8_reason 14 = .ok (.iload_n 1, 1) := by decide +kernel
theorem dX8_reason_15 : decode cX8_reason 15 = .ok (.bipush 19, 2) := by decide +kernel
theorem dX8_reason_17 : decode cX8_reason 17 = .ok (.invokevirtual 63, 3) := by decide +kernel
theorem dX8_reason_20 : decode cX8_reason 20 = .ok (.iconst 1, 1) := by decide +kernel
theorem dX8_reason_21 : decode cX8_reason 21 = .ok (.if_icmp .eq 7, 3) := by decide +kernel
theorem dX8_reason_24 : decode cX8_reason 24 = .ok (.iconst 2, 1) := by decide +kernel
theorem dX8_reason_25 : decode cX8_reason 25 = .ok (.goto 4, 3) := by decide +kernel
theorem dX8_reason_28 : decode cX8_reason 28 = .ok (.iconst 0, 1) := by decide +kernel
theorem dX8_reason_29 : decode cX8_reason 29 = .ok (.putfield 1, 3) := by decide +kernel
theorem dX8_reason_32 : decode cX8_reason 32 = .ok (.aload_n 0, 1) := by decide +kernel
theorem dX8_reason_33 : decode cX8_reason 33 = .ok (.getfield 1, 3) := by decide +kernel
theorem dX8_reason_36 : decode cX8_reason 36 = .ok (.ifCond .ne 13, 3) := by decide +kernel
theorem dX8_reason_39 : decode cX8_reason 39 = .ok (.aload_n 0, 1) := by decide +kernel
theorem dX8_reason_40 : decode cX8_reason 40 = .ok (.iload_n 1, 1) := by decide +kernel
theorem dX8_reason_41 : decode cX8_reason 41 = .ok (.bipush 27, 2) := by decide +kernel
theorem dX8_reason_43 : decode cX8_reason 43 = .ok (.invokevirtual 63, 3) := by decide +kernel
theorem dX8_reason_46 : decode cX8_reason 46 = .ok (.goto 4, 3) := by decide +kernel
theorem dX8_reason_49 : decode cX8_reason 49 = .ok (.iconst 0, 1) := by decide +kernel
theorem dX8_reason_50 : decode cX8_reason 50 = .ok (.ireturn, 1) := by decide +kernel
theorem dX8_revoke_0 : decode cX8_revoke 0 = .ok (.aload_n 0, 1) := by decide +kernel
theorem dX8_revoke_1 : decode cX8_revoke 1 = .ok (.aload_n 0, 1) := by decide +kernel
theorem dX8_revoke_2 : decode cX8_revoke 2 = .ok (.iload_n 1, 1) := by decide +kernel
theorem dX8_revoke_3 : decode cX8_revoke 3 = .ok (.invokevirtual 273, 3) := by decide +kernel
theorem dX8_revoke_6 : decode cX8_revoke 6 = .ok (.ifCond .ne 7, 3) := by decide +kernel
theorem dX8_revoke_9 : decode cX8_revoke 9 = .ok (.iconst 1, 1) := by decide +kernel
theorem dX8_revoke_10 : decode cX8_revoke 10 = .ok (.goto 31, 3) := by decide +kernel
theorem dX8_revoke_13 : decode cX8_revoke 13 = .ok (.aload_n 0, 1) := by decide +kernel
theorem dX8_revoke_14 : decode cX8_revoke 14 = .ok (.iload_n 1, 1) := by decide +kernel
theorem dX8_revoke_15 : decode cX8_revoke 15 = .ok (.bipush 19, 2) := by decide +kernel
theorem dX8_revoke_17 : decode cX8_revoke 17 = .ok (.invokevirtual 63, 3) := by decide +kernel
theorem dX8_revoke_20 : decode cX8_revoke 20 = .ok (.iconst 2, 1) := by decide +kernel
theorem dX8_revoke_21 : decode cX8_revoke 21 = .ok (.if_icmp .eq 19, 3) := by decide +kernel
theorem dX8_revoke_24 : decode cX8_revoke 24 = .ok (.aload_n 0, 1) := by decide +kernel
theorem dX8_revoke_25 : decode cX8_revoke 25 = .ok (.iload_n 1, 1) := by decide +kernel
theorem dX8_revoke_26 : decode cX8_revoke 26 = .ok (.bipush 19, 2) := by decide +kernel
theorem dX8_revoke_28 : decode cX8_revoke 28 = .ok (.invokevirtual 63, 3) := by decide +kernel
theorem dX8_revoke_31 : decode cX8_revoke 31 = .ok (.bipush 6, 2) := by decide +kernel
theorem dX8_revoke_33 : decode cX8_revoke 33 = .ok (.if_icmp .eq 7, 3) := by decide +kernel
theorem dX8_revoke_36 : decode cX8_revoke 36 = .ok (.iconst 2, 1) := by decide +kernel
theorem dX8_revoke_37 : decode cX8_revoke 37 = .ok (.goto 4, 3) := by decide +kernel
theorem dX8_revoke_40 : decode cX8_revoke 40 = .ok (.iconst 0, 1) := by decide +kernel
theorem dX8_revoke_41 : decode cX8_revoke 41 = .ok (.putfield 1, 3) := by decide +kernel
theorem dX8_revoke_44 : decode cX8_revoke 44 = .ok (.aload_n 0, 1) := by decide +kernel
theorem dX8_revoke_45 : decode cX8_revoke 45 = .ok (.getfield 1, 3) := by decide +kernel
theorem dX8_revoke_48 : decode cX8_revoke 48 = .ok (.ifCond .eq 5, 3) := by decide +kernel
theorem dX8_revoke_51 : decode cX8_revoke 51 = .ok (.iconst 0, 1) := by decide +kernel
theorem dX8_revoke_52 : decode cX8_revoke 52 = .ok (.ireturn, 1) := by decide +kernel
theorem dX8_revoke_53 : decode cX8_revoke 53 = .ok (.aload_n 0, 1) := by decide +kernel
theorem dX8_revoke_54 : decode cX8_revoke 54 = .ok (.invokevirtual 261, 3) := by decide +kernel
theorem dX8_revoke_57 : decode cX8_revoke 57 = .ok (.iconst 2, 1) := by decide +kernel
theorem dX8_revoke_58 : decode cX8_revoke 58 = .ok (.iconst 4, 1) := by decide +kernel
theorem dX8_revoke_59 : decode cX8_revoke 59 = .ok (.aload_n 0, 1) := by decide +kernel
theorem dX8_revoke_60 : decode cX8_revoke 60 = .ok (.iload_n 1, 1) := by decide +kernel
theorem dX8_revoke_61 : decode cX8_revoke 61 = .ok (.bipush 20, 2) := by decide +kernel
theorem dX8_revoke_63 : decode cX8_revoke 63 = .ok (.invokevirtual 63, 3) := by decide +kernel
theorem dX8_revoke_66 : decode cX8_revoke 66 = .ok (.isub, 1) := by decide +kernel
theorem dX8_revoke_67 : decode cX8_revoke 67 = .ok (.imul, 1) := by decide +kernel
theorem dX8_revoke_68 : decode cX8_revoke 68 = .ok (.istore_n 2, 1) := by decide +kernel
theorem dX8_revoke_69 : decode cX8_revoke 69 = .ok (.aload_n 0, 1) := by decide +kernel
theorem dX8_revoke_70 : decode cX8_revoke 70 = .ok (.iload_n 1, 1) := by decide +kernel
theorem dX8_revoke_71 : decode cX8_revoke 71 = .ok (.bipush 19, 2) := by decide +kernel
theorem dX8_revoke_73 : decode cX8_revoke 73 = .ok (.iconst 5, 1) := by decide +kernel
theorem dX8_revoke_74 : decode cX8_revoke 74 = .ok (.invokevirtual 214, 3) := by decide +kernel
theorem dX8_revoke_77 : decode cX8_revoke 77 = .ok (.aload_n 0, 1) := by decide +kernel
theorem dX8_revoke_78 : decode cX8_revoke 78 = .ok (.iload_n 1, 1) := by decide +kernel
theorem dX8_revoke_79 : decode cX8_revoke 79 = .ok (.iload_n 2, 1) := by decide +kernel
theorem dX8_revoke_80 : decode cX8_revoke 80 = .ok (.invokevirtual 292, 3) := by decide +kernel
theorem dX8_revoke_83 : decode cX8_revoke 83 = .ok (.iload_n 2, 1) := by decide +kernel
theorem dX8_revoke_84 : decode cX8_revoke 84 = .ok (.ireturn, 1) := by decide +kernel
theorem dX8_group_0 : decode cX8_group 0 = .ok (.aload_n 0, 1) := by decide +kernel
theorem dX8_group_1 : decode cX8_group 1 = .ok (.iload_n 1, 1) := by decide +kernel
theorem dX8_group_2 : decode cX8_group 2 = .ok (.bipush 19, 2) := by decide +kernel
theorem dX8_group_4 : decode cX8_group 4 = .ok (.invokevirtual 63, 3) := by decide +kernel
theorem dX8_group_7 : decode cX8_group 7 = .ok (.istore_n 2, 1) := by decide +kernel
theorem dX8_group_8 : decode cX8_group 8 = .ok (.iload_n 2, 1) := by decide +kernel
theorem dX8_group_9 : decode cX8_group 9 = .ok (.iconst 2, 1) := by decide +kernel
theorem dX8_group_10 : decode cX8_group 10 = .ok (.if_icmp .ne 7, 3) := by decide +kernel
theorem dX8_group_13 : decode cX8_group 13 = .ok (.iconst 0, 1) := by decide +kernel
theorem dX8_group_14 : decode cX8_group 14 = .ok (.goto 22, 3) := by decide +kernel
theorem dX8_group_17 : decode cX8_group 17 = .ok (.iload_n 2, 1) := by decide +kernel
theorem dX8_group_18 : decode cX8_group 18 = .ok (.bipush 6, 2) := by decide +kernel
theorem dX8_group_20 : decode cX8_group 20 = .ok (.if_icmp .ne 7, 3) := by decide +kernel
theorem dX8_group_23 : decode cX8_group 23 = .ok (.iconst 1, 1) := by decide +kernel
theorem dX8_group_24 : decode cX8_group 24 = .ok (.goto 12, 3) := by decide +kernel
theorem dX8_group_27 : decode cX8_group 27 = .ok (.iload_n 2, 1) := by decide +kernel
theorem dX8_group_28 : decode cX8_group 28 = .ok (.ifCond .ne 7, 3) := by decide +kernel
theorem dX8_group_31 : decode cX8_group 31 = .ok (.iconst 2, 1) := by decide +kernel
theorem dX8_group_32 : decode cX8_group 32 = .ok (.goto 4, 3) := by decide +kernel
theorem dX8_group_35 : decode cX8_group 35 = .ok (.iconst (-1), 1) := by decide +kernel
theorem dX8_group_36 : decode cX8_group 36 = .ok (.ireturn, 1) := by decide +kernel
theorem dX8_isAhead_0 : decode cX8_isAhead 0 = .ok (.aload_n 0, 1) := by decide +kernel
theorem dX8_isAhead_1 : decode cX8_isAhead 1 = .ok (.iload_n 1, 1) := by decide +kernel
theorem dX8_isAhead_2 : decode cX8_isAhead 2 = .ok (.invokevirtual 295, 3) := by decide +kernel
theorem dX8_isAhead_5 : decode cX8_isAhead 5 = .ok (.aload_n 0, 1) := by decide +kernel
theorem dX8_isAhead_6 : decode cX8_isAhead 6 = .ok (.iload_n 2, 1) := by decide +kernel
theorem dX8_isAhead_7 : decode cX8_isAhead 7 = .ok (.invokevirtual 295, 3) := by decide +kernel
theorem dX8_isAhead_10 : decode cX8_isAhead 10 = .ok (.if_icmp .eq 22, 3) := by decide +kernel
theorem dX8_isAhead_13 : decode cX8_isAhead 13 = .ok (.aload_n 0, 1) := by decide +kernel
theorem dX8_isAhead_14 : decode cX8_isAhead 14 = .ok (.iload_n 1, 1) := by decide +kernel
theorem dX8_isAhead_15 : decode cX8_isAhead 15 = .ok (.invokevirtual 295, 3) := by decide +kernel
theorem dX8_isAhead_18 : decode cX8_isAhead 18 = .ok (.aload_n 0, 1) := by decide +kernel
theorem dX8_isAhead_19 : decode cX8_isAhead 19 = .ok (.iload_n 2, 1) := by decide +kernel
theorem dX8_isAhead_20 : decode cX8_isAhead 20 = .ok (.invokevirtual 295, 3) := by decide +kernel
theorem dX8_isAhead_23 : decode cX8_isAhead 23 = .ok (.if_icmp .ge 7, 3) := by decide +kernel
theorem dX8_isAhead_26 : decode cX8_isAhead 26 = .ok (.iconst 1, 1) := by decide +kernel
theorem dX8_isAhead_27 : decode cX8_isAhead 27 = .ok (.goto 4, 3) := by decide +kernel
theorem dX8_isAhead_30 : decode cX8_isAhead 30 = .ok (.iconst 0, 1) := by decide +kernel
theorem dX8_isAhead_31 : decode cX8_isAhead 31 = .ok (.ireturn, 1) := by decide +kernel
theorem dX8_isAhead_32 : decode cX8_isAhead 32 = .ok (.aload_n 0, 1) := by decide +kernel
theorem dX8_isAhead_33 : decode cX8_isAhead 33 = .ok (.iload_n 1, 1) := by decide +kernel
theorem dX8_isAhead_34 : decode cX8_isAhead 34 = .ok (.invokevirtual 295, 3) := by decide +kernel
theorem dX8_isAhead_37 : decode cX8_isAhead 37 = .ok (.ifCond .ne 24, 3) := by decide +kernel
theorem dX8_isAhead_40 : decode cX8_isAhead 40 = .ok (.aload_n 0, 1) := by decide +kernel
theorem dX8_isAhead_41 : decode cX8_isAhead 41 = .ok (.iload_n 1, 1) := by decide +kernel
theorem dX8_isAhead_42 : decode cX8_isAhead 42 = .ok (.bipush 22, 2) := by decide +kernel
theorem dX8_isAhead_44 : decode cX8_isAhead 44 = .ok (.invokevirtual 63, 3) := by decide +kernel
theorem dX8_isAhead_47 : decode cX8_isAhead 47 = .ok (.aload_n 0, 1) := by decide +kernel
theorem dX8_isAhead_48 : decode cX8_isAhead 48 = .ok (.iload_n 2, 1) := by decide +kernel
theorem dX8_isAhead_49 : decode cX8_isAhead 49 = .ok (.bipush 22, 2) := by decide +kernel
theorem dX8_isAhead_51 : decode cX8_isAhead 51 = .ok (.invokevirtual 63, 3) := by decide +kernel
theorem dX8_isAhead_54 : decode cX8_isAhead 54 = .ok (.if_icmp .eq 7, 3) := by decide +kernel
theorem dX8_isAhead_57 : decode cX8_isAhead 57 = .ok (.iconst 1, 1) := by decide +kernel
theorem dX8_isAhead_58 : decode cX8_isAhead 58 = .ok (.goto 4, 3) := by decide +kernel
theorem dX8_isAhead_61 : decode cX8_isAhead 61 = .ok (.iconst 0, 1) := by decide +kernel
theorem dX8_isAhead_62 : decode cX8_isAhead 62 = .ok (.istore_n 3, 1) := by decide +kernel
theorem dX8_isAhead_63 : decode cX8_isAhead 63 = .ok (.iload_n 3, 1) := by decide +kernel
theorem dX8_isAhead_64 : decode cX8_isAhead 64 = .ok (.ifCond .eq 28, 3) := by decide +kernel
theorem dX8_isAhead_67 : decode cX8_isAhead 67 = .ok (.aload_n 0, 1) := by decide +kernel
theorem dX8_isAhead_68 : decode cX8_isAhead 68 = .ok (.iload_n 1, 1) := by decide +kernel
theorem dX8_isAhead_69 : decode cX8_isAhead 69 = .ok (.bipush 22, 2) := by decide +kernel
theorem dX8_isAhead_71 : decode cX8_isAhead 71 = .ok (.invokevirtual 63, 3) := by decide +kernel
theorem dX8_isAhead_74 : decode cX8_isAhead 74 = .ok (.aload_n 0, 1) := by decide +kernel
theorem dX8_isAhead_75 : decode cX8_isAhead 75 = .ok (.iload_n 2, 1) := by decide +kernel
theorem dX8_isAhead_76 : decode cX8_isAhead 76 = .ok (.bipush 22, 2) := by decide +kernel
theorem dX8_isAhead_78 : decode cX8_isAhead 78 = .ok (.invokevirtual 63, 3) := by decide +kernel
theorem dX8_isAhead_81 : decode cX8_isAhead 81 = .ok (.if_icmp .ge 7, 3) := by decide +kernel
theorem dX8_isAhead_84 : decode cX8_isAhead 84 = .ok (.iconst 1, 1) := by decide +kernel
theorem dX8_isAhead_85 : decode cX8_isAhead 85 = .ok (.goto 17, 3) := by decide +kernel
theorem dX8_isAhead_88 : decode cX8_isAhead 88 = .ok (.iconst 0, 1) := by decide +kernel
theorem dX8_isAhead_89 : decode cX8_isAhead 89 = .ok (.goto 13, 3) := by decide +kernel
theorem dX8_isAhead_92 : decode cX8_isAhead 92 = .ok (.iload_n 1, 1) := by decide +kernel
theorem dX8_isAhead_93 : decode cX8_isAhead 93 = .ok (.iload_n 2, 1) := by decide +kernel
theorem dX8_isAhead_94 : decode cX8_isAhead 94 = .ok (.if_icmp .ge 7, 3) := by decide +kernel
theorem dX8_isAhead_97 : decode cX8_isAhead 97 = .ok (.iconst 1, 1) := by decide +kernel
theorem dX8_isAhead_98 : decode cX8_isAhead 98 = .ok (.goto 4, 3) := by decide +kernel
theorem dX8_isAhead_101 : decode cX8_isAhead 101 = .ok (.iconst 0, 1) := by decide +kernel
theorem dX8_isAhead_102 : decode cX8_isAhead 102 = .ok (.ireturn, 1) := by decide +kernel
theorem dX8_urgent_0 : decode cX8_urgent 0 = .ok (.aload_n 0, 1) := by decide +kernel
theorem dX8_urgent_1 : decode cX8_urgent 1 = .ok (.iconst 0, 1) := by decide +kernel
theorem dX8_urgent_2 : decode cX8_urgent 2 = .ok (.putfield 1, 3) := by decide +kernel
theorem dX8_urgent_5 : decode cX8_urgent 5 = .ok (.iconst 0, 1) := by decide +kernel
theorem dX8_urgent_6 : decode cX8_urgent 6 = .ok (.istore_n 2, 1) := by decide +kernel
theorem dX8_urgent_7 : decode cX8_urgent 7 = .ok (.iload_n 2, 1) := by decide +kernel
theorem dX8_urgent_8 : decode cX8_urgent 8 = .ok (.aload_n 0, 1) := by decide +kernel
theorem dX8_urgent_9 : decode cX8_urgent 9 = .ok (.getfield 13, 3) := by decide +kernel
theorem dX8_urgent_12 : decode cX8_urgent 12 = .ok (.iconst 2, 1) := by decide +kernel
theorem dX8_urgent_13 : decode cX8_urgent 13 = .ok (.iaload, 1) := by decide +kernel
theorem dX8_urgent_14 : decode cX8_urgent 14 = .ok (.if_icmp .ge 81, 3) := by decide +kernel
theorem dX8_urgent_17 : decode cX8_urgent 17 = .ok (.iconst 0, 1) := by decide +kernel
theorem dX8_urgent_18 : decode cX8_urgent 18 = .ok (.istore_n 3, 1) := by decide +kernel
theorem dX8_urgent_19 : decode cX8_urgent 19 = .ok (.iconst 0, 1) := by decide +kernel
theorem dX8_urgent_20 : decode cX8_urgent 20 = .ok (.istore 4, 2) := by decide +kernel
theorem dX8_urgent_22 : decode cX8_urgent 22 = .ok (.iload 4, 2) := by decide +kernel
theorem dX8_urgent_24 : decode cX8_urgent 24 = .ok (.aload_n 0, 1) := by decide +kernel
theorem dX8_urgent_25 : decode cX8_urgent 25 = .ok (.getfield 13, 3) := by decide +kernel
theorem dX8_urgent_28 : decode cX8_urgent 28 = .ok (.iconst 2, 1) := by decide +kernel
theorem dX8_urgent_29 : decode cX8_urgent 29 = .ok (.iaload, 1) := by decide +kernel
theorem dX8_urgent_30 : decode cX8_urgent 30 = .ok (.if_icmp .ge 43, 3) := by decide +kernel
theorem dX8_urgent_33 : decode cX8_urgent 33 = .ok (.iload_n 3, 1) := by decide +kernel
theorem dX8_urgent_34 : decode cX8_urgent 34 = .ok (.iload 4, 2) := by decide +kernel
theorem dX8_urgent_36 : decode cX8_urgent 36 = .ok (.iload_n 2, 1) := by decide +kernel
theorem dX8_urgent_37 : decode cX8_urgent 37 = .ok (.if_icmp .eq 27, 3) := by decide +kernel
theorem dX8_urgent_40 : decode cX8_urgent 40 = .ok (.aload_n 0, 1) := by decide +kernel
theorem dX8_urgent_41 : decode cX8_urgent 41 = .ok (.iload 4, 2) := by decide +kernel
theorem dX8_urgent_43 : decode cX8_urgent 43 = .ok (.invokevirtual 295, 3) := by decide +kernel
theorem dX8_urgent_46 : decode cX8_urgent 46 = .ok (.iconst (-1), 1) := by decide +kernel
theorem dX8_urgent_47 : decode cX8_urgent 47 = .ok (.if_icmp .eq 17, 3) := by decide +kernel
theorem dX8_urgent_50 : decode cX8_urgent 50 = .ok (.aload_n 0, 1) := by decide +kernel
theorem dX8_urgent_51 : decode cX8_urgent 51 = .ok (.iload 4, 2) := by decide +kernel
theorem dX8_urgent_53 : decode cX8_urgent 53 = .ok (.iload_n 2, 1) := by decide +kernel
theorem dX8_urgent_54 : decode cX8_urgent 54 = .ok (.invokevirtual 298, 3) := by decide +kernel
theorem dX8_urgent_57 : decode cX8_urgent 57 = .ok (.ifCond .eq 7, 3) := by decide +kernel
theorem dX8_urgent_60 : decode cX8_urgent 60 = .ok (.iconst 1, 1) := by decide +kernel
theorem dX8_urgent_61 : decode cX8_urgent 61 = .ok (.goto 4, 3) := by decide +kernel
theorem dX8_urgent_64 : decode cX8_urgent 64 = .ok (.iconst 0, 1) := by decide +kernel
theorem dX8_urgent_65 : decode cX8_urgent 65 = .ok (.iadd, 1) := by decide +kernel
theorem dX8_urgent_66 : decode cX8_urgent 66 = .ok (.istore_n 3, 1) := by decide +kernel
theorem dX8_urgent_67 : decode cX8_urgent 67 = .ok (.iinc 4 1, 3) := by decide +kernel
theorem dX8_urgent_70 : decode cX8_urgent 70 = .ok (.goto (-48), 3) := by decide +kernel
theorem dX8_urgent_73 : decode cX8_urgent 73 = .ok (.aload_n 0, 1) := by decide +kernel
theorem dX8_urgent_74 : decode cX8_urgent 74 = .ok (.iload_n 2, 1) := by decide +kernel
theorem dX8_urgent_75 : decode cX8_urgent 75 = .ok (.invokevirtual 295, 3) := by decide +kernel
theorem dX8_urgent_78 : decode cX8_urgent 78 = .ok (.iconst (-1), 1) := by decide +kernel
theorem dX8_urgent_79 : decode cX8_urgent 79 = .ok (.if_icmp .eq 10, 3) := by decide +kernel
theorem dX8_urgent_82 : decode cX8_urgent 82 = .ok (.iload_n 3, 1) := by decide +kernel
theorem dX8_urgent_83 : decode cX8_urgent 83 = .ok (.iload_n 1, 1) := by decide +kernel
theorem dX8_urgent_84 : decode cX8_urgent 84 = .ok (.if_icmp .ne 5, 3) := by decide +kernel
theorem dX8_urgent_87 : decode cX8_urgent 87 = .ok (.iload_n 2, 1) := by decide +kernel
theorem dX8_urgent_88 : decode cX8_urgent 88 = .ok (.ireturn, 1) := by decide +kernel
theorem dX8_urgent_89 : decode cX8_urgent 89 = .ok (.iinc 2 1, 3) := by decide +kernel
theorem dX8_urgent_92 : decode cX8_urgent 92 = .ok (.goto (-85), 3) := by decide +kernel
theorem dX8_urgent_95 : decode cX8_urgent 95 = .ok (.aload_n 0, 1) := by decide +kernel
theorem dX8_urgent_96 : decode cX8_urgent 96 = .ok (.iconst 1, 1) := by decide +kernel
theorem dX8_urgent_97 : decode cX8_urgent 97 = .ok (.invokevirtual 163, 3) := by decide +kernel
theorem dX8_urgent_100 : decode cX8_urgent 100 = .ok (.ireturn, 1) := by decide +kernel
theorem dX8_namedBy_0 : decode cX8_namedBy 0 = .ok (.iconst 0, 1) := by decide +kernel
theorem dX8_namedBy_1 : decode cX8_namedBy 1 = .ok (.istore_n 2, 1) := by decide +kernel
theorem dX8_namedBy_2 : decode cX8_namedBy 2 = .ok (.iconst 0, 1) := by decide +kernel
theorem dX8_namedBy_3 : decode cX8_namedBy 3 = .ok (.istore_n 3, 1) := by decide +kernel
theorem dX8_namedBy_4 : decode cX8_namedBy 4 = .ok (.iload_n 3, 1) := by decide +kernel
theorem dX8_namedBy_5 : decode cX8_namedBy 5 = .ok (.aload_n 0, 1) := by decide +kernel
theorem dX8_namedBy_6 : decode cX8_namedBy 6 = .ok (.getfield 13, 3) := by decide +kernel
theorem dX8_namedBy_9 : decode cX8_namedBy 9 = .ok (.iconst 2, 1) := by decide +kernel
theorem dX8_namedBy_10 : decode cX8_namedBy 10 = .ok (.iaload, 1) := by decide +kernel
theorem dX8_namedBy_11 : decode cX8_namedBy 11 = .ok (.if_icmp .ge 23, 3) := by decide +kernel
theorem dX8_namedBy_14 : decode cX8_namedBy 14 = .ok (.iload_n 2, 1) := by decide +kernel
theorem dX8_namedBy_15 : decode cX8_namedBy 15 = .ok (.aload_n 0, 1) := by decide +kernel
theorem dX8_namedBy_16 : decode cX8_namedBy 16 = .ok (.iload_n 3, 1) := by decide +kernel
theorem dX8_namedBy_17 : decode cX8_namedBy 17 = .ok (.bipush 24, 2) := by decide +kernel
theorem dX8_namedBy_19 : decode cX8_namedBy 19 = .ok (.invokevirtual 63, 3) := by decide +kernel
theorem dX8_namedBy_22 : decode cX8_namedBy 22 = .ok (.iload_n 1, 1) := by decide +kernel
theorem dX8_namedBy_23 : decode cX8_namedBy 23 = .ok (.ishr, 1) := by decide +kernel
theorem dX8_namedBy_24 : decode cX8_namedBy 24 = .ok (.iconst 1, 1) := by decide +kernel
theorem dX8_namedBy_25 : decode cX8_namedBy 25 = .ok (.iand, 1) := by decide +kernel
theorem dX8_namedBy_26 : decode cX8_namedBy 26 = .ok (.iadd, 1) := by decide +kernel
theorem dX8_namedBy_27 : decode cX8_namedBy 27 = .ok (.istore_n 2, 1) := by decide +kernel
theorem dX8_namedBy_28 : decode cX8_namedBy 28 = .ok (.iinc 3 1, 3) := by decide +kernel
theorem dX8_namedBy_31 : decode cX8_namedBy 31 = .ok (.goto (-27), 3) := by decide +kernel
theorem dX8_namedBy_34 : decode cX8_namedBy 34 = .ok (.iload_n 2, 1) := by decide +kernel
theorem dX8_namedBy_35 : decode cX8_namedBy 35 = .ok (.ireturn, 1) := by decide +kernel
theorem dX8_variance_0 : decode cX8_variance 0 = .ok (.aload_n 0, 1) := by decide +kernel
theorem dX8_variance_1 : decode cX8_variance 1 = .ok (.iload_n 1, 1) := by decide +kernel
theorem dX8_variance_2 : decode cX8_variance 2 = .ok (.iconst 0, 1) := by decide +kernel
theorem dX8_variance_3 : decode cX8_variance 3 = .ok (.aload_n 0, 1) := by decide +kernel
theorem dX8_variance_4 : decode cX8_variance 4 = .ok (.getfield 13, 3) := by decide +kernel
theorem dX8_variance_7 : decode cX8_variance 7 = .ok (.iconst 3, 1) := by decide +kernel
theorem dX8_variance_8 : decode cX8_variance 8 = .ok (.iaload, 1) := by decide +kernel
theorem dX8_variance_9 : decode cX8_variance 9 = .ok (.iconst 1, 1) := by decide +kernel
theorem dX8_variance_10 : decode cX8_variance 10 = .ok (.isub, 1) := by decide +kernel
theorem dX8_variance_11 : decode cX8_variance 11 = .ok (.invokestatic 49, 3) := by decide +kernel
theorem dX8_variance_14 : decode cX8_variance 14 = .ok (.ifCond .ne 7, 3) := by decide +kernel
theorem dX8_variance_17 : decode cX8_variance 17 = .ok (.iconst 1, 1) := by decide +kernel
theorem dX8_variance_18 : decode cX8_variance 18 = .ok (.goto 17, 3) := by decide +kernel
theorem dX8_variance_21 : decode cX8_variance 21 = .ok (.iload_n 2, 1) := by decide +kernel
theorem dX8_variance_22 : decode cX8_variance 22 = .ok (.iconst 0, 1) := by decide +kernel
theorem dX8_variance_23 : decode cX8_variance 23 = .ok (.iconst 5, 1) := by decide +kernel
theorem dX8_variance_24 : decode cX8_variance 24 = .ok (.invokestatic 49, 3) := by decide +kernel
theorem dX8_variance_27 : decode cX8_variance 27 = .ok (.ifCond .ne 7, 3) := by decide +kernel
theorem dX8_variance_30 : decode cX8_variance 30 = .ok (.iconst 2, 1) := by decide +kernel
theorem dX8_variance_31 : decode cX8_variance 31 = .ok (.goto 4, 3) := by decide +kernel
theorem dX8_variance_34 : decode cX8_variance 34 = .ok (.iconst 0, 1) := by decide +kernel
theorem dX8_variance_35 : decode cX8_variance 35 = .ok (.putfield 1, 3) := by decide +kernel
theorem dX8_variance_38 : decode cX8_variance 38 = .ok (.aload_n 0, 1) := by decide +kernel
theorem dX8_variance_39 : decode cX8_variance 39 = .ok (.getfield 1, 3) := by decide +kernel
theorem dX8_variance_42 : decode cX8_variance 42 = .ok (.ifCond .eq 7, 3) := by decide +kernel
theorem dX8_variance_45 : decode cX8_variance 45 = .ok (.iconst 0, 1) := by decide +kernel
theorem dX8_variance_46 : decode cX8_variance 46 = .ok (.goto 43, 3) := by decide +kernel
theorem dX8_variance_49 : decode cX8_variance 49 = .ok (.iload_n 2, 1) := by decide +kernel
theorem dX8_variance_50 : decode cX8_variance 50 = .ok (.iconst 4, 1) := by decide +kernel
theorem dX8_variance_51 : decode cX8_variance 51 = .ok (.if_icmp .ge 12, 3) := by decide +kernel
theorem dX8_variance_54 : decode cX8_variance 54 = .ok (.aload_n 0, 1) := by decide +kernel
theorem dX8_variance_55 : decode cX8_variance 55 = .ok (.iload_n 1, 1) := by decide +kernel
theorem dX8_variance_56 : decode cX8_variance 56 = .ok (.iload_n 2, 1) := by decide +kernel
theorem dX8_variance_57 : decode cX8_variance 57 = .ok (.invokevirtual 130, 3) := by decide +kernel
theorem dX8_variance_60 : decode cX8_variance 60 = .ok (.goto 29, 3) := by decide +kernel
theorem dX8_variance_63 : decode cX8_variance 63 = .ok (.iload_n 2, 1) := by decide +kernel
theorem dX8_variance_64 : decode cX8_variance 64 = .ok (.iconst 4, 1) := by decide +kernel
theorem dX8_variance_65 : decode cX8_variance 65 = .ok (.if_icmp .ne 11, 3) := by decide +kernel
theorem dX8_variance_68 : decode cX8_variance 68 = .ok (.aload_n 0, 1) := by decide +kernel
theorem dX8_variance_69 : decode cX8_variance 69 = .ok (.iload_n 1, 1) := by decide +kernel
theorem dX8_variance_70 : decode cX8_variance 70 = .ok (.invokevirtual 302, 3) := by decide +kernel
theorem dX8_variance_73 : decode cX8_variance 73 = .ok (.goto 16, 3) := by decide +kernel
theorem dX8_variance_76 : decode cX8_variance 76 = .ok (.aload_n 0, 1) := by decide +kernel
theorem dX8_variance_77 : decode cX8_variance 77 = .ok (.iload_n 1, 1) := by decide +kernel
theorem dX8_variance_78 : decode cX8_variance 78 = .ok (.invokevirtual 133, 3) := by decide +kernel
theorem dX8_variance_81 : decode cX8_variance 81 = .ok (.ifCond .eq 7, 3) := by decide +kernel
theorem dX8_variance_84 : decode cX8_variance 84 = .ok (.iconst 1, 1) := by decide +kernel
theorem dX8_variance_85 : decode cX8_variance 85 = .ok (.goto 4, 3) := by decide +kernel
theorem dX8_variance_88 : decode cX8_variance 88 = .ok (.iconst 0, 1) := by decide +kernel
theorem dX8_variance_89 : decode cX8_variance 89 = .ok (.ireturn, 1) := by decide +kernel
theorem dX8_needed_0 : decode cX8_needed 0 = .ok (.aload_n 0, 1) := by decide +kernel
theorem dX8_needed_1 : decode cX8_needed 1 = .ok (.aload_n 0, 1) := by decide +kernel
theorem dX8_needed_2 : decode cX8_needed 2 = .ok (.iload_n 1, 1) := by decide +kernel
theorem dX8_needed_3 : decode cX8_needed 3 = .ok (.invokevirtual 273, 3) := by decide +kernel
theorem dX8_needed_6 : decode cX8_needed 6 = .ok (.ifCond .ne 7, 3) := by decide +kernel
theorem dX8_needed_9 : decode cX8_needed 9 = .ok (.iconst 1, 1) := by decide +kernel
theorem dX8_needed_10 : decode cX8_needed 10 = .ok (.goto 18, 3) := by decide +kernel
theorem dX8_needed_13 : decode cX8_needed 13 = .ok (.iload_n 2, 1) := by decide +kernel
theorem dX8_needed_14 : decode cX8_needed 14 = .ok (.iconst 2, 1) := by decide +kernel
theorem dX8_needed_15 : decode cX8_needed 15 = .ok (.bipush 8, 2) := by decide +kernel
theorem dX8_needed_17 : decode cX8_needed 17 = .ok (.invokestatic 49, 3) := by decide +kernel
theorem dX8_needed_20 : decode cX8_needed 20 = .ok (.ifCond .ne 7, 3) := by decide +kernel
theorem dX8_needed_23 : decode cX8_needed 23 = .ok (.iconst 2, 1) := by decide +kernel
theorem dX8_needed_24 : decode cX8_needed 24 = .ok (.goto 4, 3) := by decide +kernel
theorem dX8_needed_27 : decode cX8_needed 27 = .ok (.iconst 0, 1) := by decide +kernel
theorem dX8_needed_28 : decode cX8_needed 28 = .ok (.putfield 1, 3) := by decide +kernel
theorem dX8_needed_31 : decode cX8_needed 31 = .ok (.aload_n 0, 1) := by decide +kernel
theorem dX8_needed_32 : decode cX8_needed 32 = .ok (.getfield 1, 3) := by decide +kernel
theorem dX8_needed_35 : decode cX8_needed 35 = .ok (.ifCond .eq 5, 3) := by decide +kernel
theorem dX8_needed_38 : decode cX8_needed 38 = .ok (.iconst 0, 1) := by decide +kernel
theorem dX8_needed_39 : decode cX8_needed 39 = .ok (.ireturn, 1) := by decide +kernel
theorem dX8_needed_40 : decode cX8_needed 40 = .ok (.aload_n 0, 1) := by decide +kernel
theorem dX8_needed_41 : decode cX8_needed 41 = .ok (.iload_n 1, 1) := by decide +kernel
theorem dX8_needed_42 : decode cX8_needed 42 = .ok (.iload_n 2, 1) := by decide +kernel
theorem dX8_needed_43 : decode cX8_needed 43 = .ok (.invokevirtual 151, 3) := by decide +kernel
theorem dX8_needed_46 : decode cX8_needed 46 = .ok (.istore_n 3, 1) := by decide +kernel
theorem dX8_needed_47 : decode cX8_needed 47 = .ok (.aload_n 0, 1) := by decide +kernel
theorem dX8_needed_48 : decode cX8_needed 48 = .ok (.iload_n 1, 1) := by decide +kernel
theorem dX8_needed_49 : decode cX8_needed 49 = .ok (.iload_n 2, 1) := by decide +kernel
theorem dX8_needed_50 : decode cX8_needed 50 = .ok (.invokevirtual 154, 3) := by decide +kernel
theorem dX8_needed_53 : decode cX8_needed 53 = .ok (.istore 4, 2) := by decide +kernel
theorem dX8_needed_55 : decode cX8_needed 55 = .ok (.iload_n 2, 1) := by decide +kernel
theorem dX8_needed_56 : decode cX8_needed 56 = .ok (.iload_n 3, 1) := by decide +kernel
theorem dX8_needed_57 : decode cX8_needed 57 = .ok (.iload 4, 2) := by decide +kernel
theorem dX8_needed_59 : decode cX8_needed 59 = .ok (.invokestatic 127, 3) := by decide +kernel
theorem dX8_needed_62 : decode cX8_needed 62 = .ok (.ifCond .ne 5, 3) := by decide +kernel
theorem dX8_needed_65 : decode cX8_needed 65 = .ok (.iconst 0, 1) := by decide +kernel
theorem dX8_needed_66 : decode cX8_needed 66 = .ok (.ireturn, 1) := by decide +kernel
theorem dX8_needed_67 : decode cX8_needed 67 = .ok (.iconst 1, 1) := by decide +kernel
theorem dX8_needed_68 : decode cX8_needed 68 = .ok (.istore 5, 2) := by decide +kernel
theorem dX8_needed_70 : decode cX8_needed 70 = .ok (.iload 5, 2) := by decide +kernel
theorem dX8_needed_72 : decode cX8_needed 72 = .ok (.bipush 100, 2) := by decide +kernel
theorem dX8_needed_74 : decode cX8_needed 74 = .ok (.if_icmp .ge 21, 3) := by decide +kernel
theorem dX8_needed_77 : decode cX8_needed 77 = .ok (.iload_n 2, 1) := by decide +kernel
theorem dX8_needed_78 : decode cX8_needed 78 = .ok (.iload_n 3, 1) := by decide +kernel
theorem dX8_needed_79 : decode cX8_needed 79 = .ok (.iload 4, 2) := by decide +kernel
theorem dX8_needed_81 : decode cX8_needed 81 = .ok (.iload 5, 2) := by decide +kernel
theorem dX8_needed_83 : decode cX8_needed 83 = .ok (.invokestatic 136, 3) := by decide +kernel
theorem dX8_needed_86 : decode cX8_needed 86 = .ok (.ifCond .ne 9, 3) := by decide +kernel
theorem dX8_needed_89 : decode cX8_needed 89 = .ok (.iinc 5 1, 3) := by decide +kernel
theorem dX8_needed_92 : decode cX8_needed 92 = .ok (.goto (-22), 3) := by decide +kernel
theorem dX8_needed_95 : decode cX8_needed 95 = .ok (.iload 5, 2) := by decide +kernel
theorem dX8_needed_97 : decode cX8_needed 97 = .ok (.bipush 100, 2) := by decide +kernel
theorem dX8_needed_99 : decode cX8_needed 99 = .ok (.if_icmp .ne 7, 3) := by decide +kernel
theorem dX8_needed_102 : decode cX8_needed 102 = .ok (.iconst (-1), 1) := by decide +kernel
theorem dX8_needed_103 : decode cX8_needed 103 = .ok (.goto 5, 3) := by decide +kernel
theorem dX8_needed_106 : decode cX8_needed 106 = .ok (.iload 5, 2) := by decide +kernel
theorem dX8_needed_108 : decode cX8_needed 108 = .ok (.ireturn, 1) := by decide +kernel
theorem dX8_condition_0 : decode cX8_condition 0 = .ok (.aload_n 0, 1) := by decide +kernel
theorem dX8_condition_1 : decode cX8_condition 1 = .ok (.aload_n 0, 1) := by decide +kernel
theorem dX8_condition_2 : decode cX8_condition 2 = .ok (.iload_n 1, 1) := by decide +kernel
theorem dX8_condition_3 : decode cX8_condition 3 = .ok (.invokevirtual 273, 3) := by decide +kernel
theorem dX8_condition_6 : decode cX8_condition 6 = .ok (.ifCond .ne 7, 3) := by decide +kernel
theorem dX8_condition_9 : decode cX8_condition 9 = .ok (.iconst 1, 1) := by decide +kernel
theorem dX8_condition_10 : decode cX8_condition 10 = .ok (.goto 36, 3) := by decide +kernel
theorem dX8_condition_13 : decode cX8_condition 13 = .ok (.iload_n 2, 1) := by decide +kernel
theorem dX8_condition_14 : decode cX8_condition 14 = .ok (.iconst 0, 1) := by decide +kernel
theorem dX8_condition_15 : decode cX8_condition 15 = .ok (.aload_n 0, 1) := by decide +kernel
theorem dX8_condition_16 : decode cX8_condition 16 = .ok (.iload_n 1, 1) := by decide +kernel
theorem dX8_condition_17 : decode cX8_condition 17 = .ok (.invokevirtual 221, 3) := by decide +kernel
theorem dX8_condition_20 : decode cX8_condition 20 = .ok (.iconst 1, 1) := by decide +kernel
theorem dX8_condition_21 : decode cX8_condition 21 = .ok (.isub, 1) := by decide +kernel
theorem dX8_condition_22 : decode cX8_condition 22 = .ok (.invokestatic 49, 3) := by decide +kernel
theorem dX8_condition_25 : decode cX8_condition 25 = .ok (.ifCond .ne 7, 3) := by decide +kernel
theorem dX8_condition_28 : decode cX8_condition 28 = .ok (.iconst 1, 1) := by decide +kernel
theorem dX8_condition_29 : decode cX8_condition 29 = .ok (.goto 17, 3) := by decide +kernel
theorem dX8_condition_32 : decode cX8_condition 32 = .ok (.iload_n 3, 1) := by decide +kernel
theorem dX8_condition_33 : decode cX8_condition 33 = .ok (.iconst 0, 1) := by decide +kernel
theorem dX8_condition_34 : decode cX8_condition 34 = .ok (.iconst 2, 1) := by decide +kernel
theorem dX8_condition_35 : decode cX8_condition 35 = .ok (.invokestatic 49, 3) := by decide +kernel
theorem dX8_condition_38 : decode cX8_condition 38 = .ok (.ifCond .ne 7, 3) := by decide +kernel
theorem dX8_condition_41 : decode cX8_condition 41 = .ok (.iconst 2, 1) := by decide +kernel
theorem dX8_condition_42 : decode cX8_condition 42 = .ok (.goto 4, 3) := by decide +kernel
theorem dX8_condition_45 : decode cX8_condition 45 = .ok (.iconst 0, 1) := by decide +kernel
theorem dX8_condition_46 : decode cX8_condition 46 = .ok (.putfield 1, 3) := by decide +kernel
theorem dX8_condition_49 : decode cX8_condition 49 = .ok (.aload_n 0, 1) := by decide +kernel
theorem dX8_condition_50 : decode cX8_condition 50 = .ok (.getfield 1, 3) := by decide +kernel
theorem dX8_condition_53 : decode cX8_condition 53 = .ok (.ifCond .ne 13, 3) := by decide +kernel
theorem dX8_condition_56 : decode cX8_condition 56 = .ok (.aload_n 0, 1) := by decide +kernel
theorem dX8_condition_57 : decode cX8_condition 57 = .ok (.iload_n 1, 1) := by decide +kernel
theorem dX8_condition_58 : decode cX8_condition 58 = .ok (.iload_n 2, 1) := by decide +kernel
theorem dX8_condition_59 : decode cX8_condition 59 = .ok (.iload_n 3, 1) := by decide +kernel
theorem dX8_condition_60 : decode cX8_condition 60 = .ok (.invokevirtual 270, 3) := by decide +kernel
theorem dX8_condition_63 : decode cX8_condition 63 = .ok (.goto 4, 3) := by decide +kernel
theorem dX8_condition_66 : decode cX8_condition 66 = .ok (.iconst 0, 1) := by decide +kernel
theorem dX8_condition_67 : decode cX8_condition 67 = .ok (.ireturn, 1) := by decide +kernel
theorem dX8_hasOpen_0 : decode cX8_hasOpen 0 = .ok (.iconst 0, 1) := by decide +kernel
theorem dX8_hasOpen_1 : decode cX8_hasOpen 1 = .ok (.istore 4, 2) := by decide +kernel
theorem dX8_hasOpen_3 : decode cX8_hasOpen 3 = .ok (.iconst 0, 1) := by decide +kernel
theorem dX8_hasOpen_4 : decode cX8_hasOpen 4 = .ok (.istore 5, 2) := by decide +kernel
theorem dX8_hasOpen_6 : decode cX8_hasOpen 6 = .ok (.iload 5, 2) := by decide +kernel
theorem dX8_hasOpen_8 : decode cX8_hasOpen 8 = .ok (.aload_n 0, 1) := by decide +kernel
theorem dX8_hasOpen_9 : decode cX8_hasOpen 9 = .ok (.iload_n 1, 1) := by decide +kernel
theorem dX8_hasOpen_10 : decode cX8_hasOpen 10 = .ok (.invokevirtual 221, 3) := by decide +kernel
theorem dX8_hasOpen_13 : decode cX8_hasOpen 13 = .ok (.if_icmp .ge 45, 3) := by decide +kernel
theorem dX8_hasOpen_16 : decode cX8_hasOpen 16 = .ok (.iload 4, 2) := by decide +kernel
theorem dX8_hasOpen_18 : decode cX8_hasOpen 18 = .ok (.ifCond .ne 27, 3) := by decide +kernel
theorem dX8_hasOpen_21 : decode cX8_hasOpen 21 = .ok (.aload_n 0, 1) := by decide +kernel
theorem dX8_hasOpen_22 : decode cX8_hasOpen 22 = .ok (.iload_n 1, 1) := by decide +kernel
theorem dX8_hasOpen_23 : decode cX8_hasOpen 23 = .ok (.iload 5, 2) := by decide +kernel
theorem dX8_hasOpen_25 : decode cX8_hasOpen 25 = .ok (.iconst 2, 1) := by decide +kernel
theorem dX8_hasOpen_26 : decode cX8_hasOpen 26 = .ok (.invokevirtual 270, 3) := by decide +kernel
theorem dX8_hasOpen_29 : decode cX8_hasOpen 29 = .ok (.iconst 1, 1) := by decide +kernel
theorem dX8_hasOpen_30 : decode cX8_hasOpen 30 = .ok (.if_icmp .ne 19, 3) := by decide +kernel
theorem dX8_hasOpen_33 : decode cX8_hasOpen 33 = .ok (.aload_n 0, 1) := by decide +kernel
theorem dX8_hasOpen_34 : decode cX8_hasOpen 34 = .ok (.iload_n 1, 1) := by decide +kernel
theorem dX8_hasOpen_35 : decode cX8_hasOpen 35 = .ok (.iload 5, 2) := by decide +kernel
theorem dX8_hasOpen_37 : decode cX8_hasOpen 37 = .ok (.iload_n 2, 1) := by decide +kernel
theorem dX8_hasOpen_38 : decode cX8_hasOpen 38 = .ok (.invokevirtual 270, 3) := by decide +kernel
theorem dX8_hasOpen_41 : decode cX8_hasOpen 41 = .ok (.iload_n 3, 1) := by decide +kernel
theorem dX8_hasOpen_42 : decode cX8_hasOpen 42 = .ok (.if_icmp .ne 7, 3) := by decide +kernel
theorem dX8_hasOpen_45 : decode cX8_hasOpen 45 = .ok (.iconst 1, 1) := by decide +kernel
theorem dX8_hasOpen_46 : decode cX8_hasOpen 46 = .ok (.goto 4, 3) := by decide +kernel
theorem dX8_hasOpen_49 : decode cX8_hasOpen 49 = .ok (.iconst 0, 1) := by decide +kernel
theorem dX8_hasOpen_50 : decode cX8_hasOpen 50 = .ok (.istore 4, 2) := by decide +kernel
theorem dX8_hasOpen_52 : decode cX8_hasOpen 52 = .ok (.iinc 5 1, 3) := by decide +kernel
theorem dX8_hasOpen_55 : decode cX8_hasOpen 55 = .ok (.goto (-49), 3) := by decide +kernel
theorem dX8_hasOpen_58 : decode cX8_hasOpen 58 = .ok (.iload 4, 2) := by decide +kernel
theorem dX8_hasOpen_60 : decode cX8_hasOpen 60 = .ok (.ireturn, 1) := by decide +kernel
theorem dX8_fulfil_0 : decode cX8_fulfil 0 = .ok (.aload_n 0, 1) := by decide +kernel
theorem dX8_fulfil_1 : decode cX8_fulfil 1 = .ok (.aload_n 0, 1) := by decide +kernel
theorem dX8_fulfil_2 : decode cX8_fulfil 2 = .ok (.iload_n 1, 1) := by decide +kernel
theorem dX8_fulfil_3 : decode cX8_fulfil 3 = .ok (.invokevirtual 273, 3) := by decide +kernel
theorem dX8_fulfil_6 : decode cX8_fulfil 6 = .ok (.ifCond .ne 7, 3) := by decide +kernel
theorem dX8_fulfil_9 : decode cX8_fulfil 9 = .ok (.iconst 1, 1) := by decide +kernel
theorem dX8_fulfil_10 : decode cX8_fulfil 10 = .ok (.goto 18, 3) := by decide +kernel
theorem dX8_fulfil_13 : decode cX8_fulfil 13 = .ok (.aload_n 0, 1) := by decide +kernel
theorem dX8_fulfil_14 : decode cX8_fulfil 14 = .ok (.iload_n 1, 1) := by decide +kernel
theorem dX8_fulfil_15 : decode cX8_fulfil 15 = .ok (.iconst 1, 1) := by decide +kernel
theorem dX8_fulfil_16 : decode cX8_fulfil 16 = .ok (.iload_n 2, 1) := by decide +kernel
theorem dX8_fulfil_17 : decode cX8_fulfil 17 = .ok (.invokevirtual 305, 3) := by decide +kernel
theorem dX8_fulfil_20 : decode cX8_fulfil 20 = .ok (.ifCond .ne 7, 3) := by decide +kernel
theorem dX8_fulfil_23 : decode cX8_fulfil 23 = .ok (.iconst 2, 1) := by decide +kernel
theorem dX8_fulfil_24 : decode cX8_fulfil 24 = .ok (.goto 4, 3) := by decide +kernel
theorem dX8_fulfil_27 : decode cX8_fulfil 27 = .ok (.iconst 0, 1) := by decide +kernel
theorem dX8_fulfil_28 : decode cX8_fulfil 28 = .ok (.putfield 1, 3) := by decide +kernel
theorem dX8_fulfil_31 : decode cX8_fulfil 31 = .ok (.aload_n 0, 1) := by decide +kernel
theorem dX8_fulfil_32 : decode cX8_fulfil 32 = .ok (.getfield 1, 3) := by decide +kernel
theorem dX8_fulfil_35 : decode cX8_fulfil 35 = .ok (.ifCond .eq 5, 3) := by decide +kernel
theorem dX8_fulfil_38 : decode cX8_fulfil 38 = .ok (.iconst 0, 1) := by decide +kernel
theorem dX8_fulfil_39 : decode cX8_fulfil 39 = .ok (.ireturn, 1) := by decide +kernel
theorem dX8_fulfil_40 : decode cX8_fulfil 40 = .ok (.aload_n 0, 1) := by decide +kernel
theorem dX8_fulfil_41 : decode cX8_fulfil 41 = .ok (.invokevirtual 261, 3) := by decide +kernel
theorem dX8_fulfil_44 : decode cX8_fulfil 44 = .ok (.iconst 0, 1) := by decide +kernel
theorem dX8_fulfil_45 : decode cX8_fulfil 45 = .ok (.istore_n 3, 1) := by decide +kernel
theorem dX8_fulfil_46 : decode cX8_fulfil 46 = .ok (.iload_n 3, 1) := by decide +kernel
theorem dX8_fulfil_47 : decode cX8_fulfil 47 = .ok (.aload_n 0, 1) := by decide +kernel
theorem dX8_fulfil_48 : decode cX8_fulfil 48 = .ok (.iload_n 1, 1) := by decide +kernel
theorem dX8_fulfil_49 : decode cX8_fulfil 49 = .ok (.invokevirtual 221, 3) := by decide +kernel
theorem dX8_fulfil_52 : decode cX8_fulfil 52 = .ok (.if_icmp .ge 35, 3) := by decide +kernel
theorem dX8_fulfil_55 : decode cX8_fulfil 55 = .ok (.aload_n 0, 1) := by decide +kernel
theorem dX8_fulfil_56 : decode cX8_fulfil 56 = .ok (.iload_n 1, 1) := by decide +kernel
theorem dX8_fulfil_57 : decode cX8_fulfil 57 = .ok (.iload_n 3, 1) := by decide +kernel
theorem dX8_fulfil_58 : decode cX8_fulfil 58 = .ok (.iconst 1, 1) := by decide +kernel
theorem dX8_fulfil_59 : decode cX8_fulfil 59 = .ok (.invokevirtual 270, 3) := by decide +kernel
theorem dX8_fulfil_62 : decode cX8_fulfil 62 = .ok (.iload_n 2, 1) := by decide +kernel
theorem dX8_fulfil_63 : decode cX8_fulfil 63 = .ok (.if_icmp .ne 18, 3) := by decide +kernel
theorem dX8_fulfil_66 : decode cX8_fulfil 66 = .ok (.aload_n 0, 1) := by decide +kernel
theorem dX8_fulfil_67 : decode cX8_fulfil 67 = .ok (.iload_n 1, 1) := by decide +kernel
theorem dX8_fulfil_68 : decode cX8_fulfil 68 = .ok (.iload_n 3, 1) := by decide +kernel
theorem dX8_fulfil_69 : decode cX8_fulfil 69 = .ok (.aload_n 0, 1) := by decide +kernel
theorem dX8_fulfil_70 : decode cX8_fulfil 70 = .ok (.iload_n 1, 1) := by decide +kernel
theorem dX8_fulfil_71 : decode cX8_fulfil 71 = .ok (.iload_n 3, 1) := by decide +kernel
theorem dX8_fulfil_72 : decode cX8_fulfil 72 = .ok (.iconst 0, 1) := by decide +kernel
theorem dX8_fulfil_73 : decode cX8_fulfil 73 = .ok (.invokevirtual 270, 3) := by decide +kernel
theorem dX8_fulfil_76 : decode cX8_fulfil 76 = .ok (.iload_n 2, 1) := by decide +kernel
theorem dX8_fulfil_77 : decode cX8_fulfil 77 = .ok (.iconst 0, 1) := by decide +kernel
theorem dX8_fulfil_78 : decode cX8_fulfil 78 = .ok (.invokevirtual 224, 3) := by decide +kernel
theorem dX8_fulfil_81 : decode cX8_fulfil 81 = .ok (.iinc 3 1, 3) := by decide +kernel
theorem dX8_fulfil_84 : decode cX8_fulfil 84 = .ok (.goto (-38), 3) := by decide +kernel
theorem dX8_fulfil_87 : decode cX8_fulfil 87 = .ok (.aload_n 0, 1) := by decide +kernel
theorem dX8_fulfil_88 : decode cX8_fulfil 88 = .ok (.iload_n 1, 1) := by decide +kernel
theorem dX8_fulfil_89 : decode cX8_fulfil 89 = .ok (.invokevirtual 276, 3) := by decide +kernel
theorem dX8_fulfil_92 : decode cX8_fulfil 92 = .ok (.ireturn, 1) := by decide +kernel
theorem dX8_inspect_0 : decode cX8_inspect 0 = .ok (.aload_n 0, 1) := by decide +kernel
theorem dX8_inspect_1 : decode cX8_inspect 1 = .ok (.aload_n 0, 1) := by decide +kernel
theorem dX8_inspect_2 : decode cX8_inspect 2 = .ok (.iload_n 1, 1) := by decide +kernel
theorem dX8_inspect_3 : decode cX8_inspect 3 = .ok (.invokevirtual 273, 3) := by decide +kernel
theorem dX8_inspect_6 : decode cX8_inspect 6 = .ok (.ifCond .ne 7, 3) := by decide +kernel
theorem dX8_inspect_9 : decode cX8_inspect 9 = .ok (.iconst 1, 1) := by decide +kernel
theorem dX8_inspect_10 : decode cX8_inspect 10 = .ok (.goto 19, 3) := by decide +kernel
theorem dX8_inspect_13 : decode cX8_inspect 13 = .ok (.aload_n 0, 1) := by decide +kernel
theorem dX8_inspect_14 : decode cX8_inspect 14 = .ok (.iload_n 1, 1) := by decide +kernel
theorem dX8_inspect_15 : decode cX8_inspect 15 = .ok (.bipush 19, 2) := by decide +kernel
theorem dX8_inspect_17 : decode cX8_inspect 17 = .ok (.invokevirtual 63, 3) := by decide +kernel
theorem dX8_inspect_20 : decode cX8_inspect 20 = .ok (.iconst 2, 1) := by decide +kernel
theorem dX8_inspect_21 : decode cX8_inspect 21 = .ok (.if_icmp .eq 7, 3) := by decide +kernel
theorem dX8_inspect_24 : decode cX8_inspect 24 = .ok (.iconst 2, 1) := by decide +kernel
theorem dX8_inspect_25 : decode cX8_inspect 25 = .ok (.goto 4, 3) := by decide +kernel
theorem dX8_inspect_28 : decode cX8_inspect 28 = .ok (.iconst 0, 1) := by decide +kernel
theorem dX8_inspect_29 : decode cX8_inspect 29 = .ok (.putfield 1, 3) := by decide +kernel
theorem dX8_inspect_32 : decode cX8_inspect 32 = .ok (.aload_n 0, 1) := by decide +kernel
theorem dX8_inspect_33 : decode cX8_inspect 33 = .ok (.getfield 1, 3) := by decide +kernel
theorem dX8_inspect_36 : decode cX8_inspect 36 = .ok (.ifCond .eq 5, 3) := by decide +kernel
theorem dX8_inspect_39 : decode cX8_inspect 39 = .ok (.iconst 0, 1) := by decide +kernel
theorem dX8_inspect_40 : decode cX8_inspect 40 = .ok (.ireturn, 1) := by decide +kernel
theorem dX8_inspect_41 : decode cX8_inspect 41 = .ok (.aload_n 0, 1) := by decide +kernel
theorem dX8_inspect_42 : decode cX8_inspect 42 = .ok (.invokevirtual 261, 3) := by decide +kernel
theorem dX8_inspect_45 : decode cX8_inspect 45 = .ok (.aload_n 0, 1) := by decide +kernel
theorem dX8_inspect_46 : decode cX8_inspect 46 = .ok (.iload_n 1, 1) := by decide +kernel
theorem dX8_inspect_47 : decode cX8_inspect 47 = .ok (.aload_n 0, 1) := by decide +kernel
theorem dX8_inspect_48 : decode cX8_inspect 48 = .ok (.iload_n 1, 1) := by decide +kernel
theorem dX8_inspect_49 : decode cX8_inspect 49 = .ok (.bipush 21, 2) := by decide +kernel
theorem dX8_inspect_51 : decode cX8_inspect 51 = .ok (.invokevirtual 63, 3) := by decide +kernel
theorem dX8_inspect_54 : decode cX8_inspect 54 = .ok (.ifCond .le 7, 3) := by decide +kernel
theorem dX8_inspect_57 : decode cX8_inspect 57 = .ok (.iconst 5, 1) := by decide +kernel
theorem dX8_inspect_58 : decode cX8_inspect 58 = .ok (.goto 4, 3) := by decide +kernel
theorem dX8_inspect_61 : decode cX8_inspect 61 = .ok (.iconst 0, 1) := by decide +kernel
theorem dX8_inspect_62 : decode cX8_inspect 62 = .ok (.invokevirtual 285, 3) := by decide +kernel
theorem dX8_inspect_65 : decode cX8_inspect 65 = .ok (.aload_n 0, 1) := by decide +kernel
theorem dX8_inspect_66 : decode cX8_inspect 66 = .ok (.iload_n 1, 1) := by decide +kernel
theorem dX8_inspect_67 : decode cX8_inspect 67 = .ok (.iconst 0, 1) := by decide +kernel
theorem dX8_inspect_68 : decode cX8_inspect 68 = .ok (.aload_n 0, 1) := by decide +kernel
theorem dX8_inspect_69 : decode cX8_inspect 69 = .ok (.iload_n 1, 1) := by decide +kernel
theorem dX8_inspect_70 : decode cX8_inspect 70 = .ok (.bipush 20, 2) := by decide +kernel
theorem dX8_inspect_72 : decode cX8_inspect 72 = .ok (.invokevirtual 63, 3) := by decide +kernel
theorem dX8_inspect_75 : decode cX8_inspect 75 = .ok (.invokevirtual 305, 3) := by decide +kernel
theorem dX8_inspect_78 : decode cX8_inspect 78 = .ok (.ifCond .eq 45, 3) := by decide +kernel
theorem dX8_inspect_81 : decode cX8_inspect 81 = .ok (.aload_n 0, 1) := by decide +kernel
theorem dX8_inspect_82 : decode cX8_inspect 82 = .ok (.iload_n 1, 1) := by decide +kernel
theorem dX8_inspect_83 : decode cX8_inspect 83 = .ok (.bipush 21, 2) := by decide +kernel
theorem dX8_inspect_85 : decode cX8_inspect 85 = .ok (.aload_n 0, 1) := by decide +kernel
theorem dX8_inspect_86 : decode cX8_inspect 86 = .ok (.iload_n 1, 1) := by decide +kernel
theorem dX8_inspect_87 : decode cX8_inspect 87 = .ok (.bipush 21, 2) := by decide +kernel
theorem dX8_inspect_89 : decode cX8_inspect 89 = .ok (.invokevirtual 63, 3) := by decide +kernel
theorem dX8_inspect_92 : decode cX8_inspect 92 = .ok (.iconst 1, 1) := by decide +kernel
theorem dX8_inspect_93 : decode cX8_inspect 93 = .ok (.iadd, 1) := by decide +kernel
theorem dX8_inspect_94 : decode cX8_inspect 94 = .ok (.invokevirtual 214, 3) := by decide +kernel
theorem dX8_inspect_97 : decode cX8_inspect 97 = .ok (.aload_n 0, 1) := by decide +kernel
theorem dX8_inspect_98 : decode cX8_inspect 98 = .ok (.iload_n 1, 1) := by decide +kernel
theorem dX8_inspect_99 : decode cX8_inspect 99 = .ok (.bipush 19, 2) := by decide +kernel
theorem dX8_inspect_101 : decode cX8_inspect 101 = .ok (.aload_n 0, 1) := by decide +kernel
theorem dX8_inspect_102 : decode cX8_inspect 102 = .ok (.iload_n 1, 1) := by decide +kernel
theorem dX8_inspect_103 : decode cX8_inspect 103 = .ok (.bipush 21, 2) := by decide +kernel
theorem dX8_inspect_105 : decode cX8_inspect 105 = .ok (.invokevirtual 63, 3) := by decide +kernel
theorem dX8_inspect_108 : decode cX8_inspect 108 = .ok (.iconst 3, 1) := by decide +kernel
theorem dX8_inspect_109 : decode cX8_inspect 109 = .ok (.if_icmp .ne 8, 3) := by decide +kernel
theorem dX8_inspect_112 : decode cX8_inspect 112 = .ok (.bipush 6, 2) := by decide +kernel
theorem dX8_inspect_114 : decode cX8_inspect 114 = .ok (.goto 4, 3) := by decide +kernel
theorem dX8_inspect_117 : decode cX8_inspect 117 = .ok (.iconst 2, 1) := by decide +kernel
theorem dX8_inspect_118 : decode cX8_inspect 118 = .ok (.invokevirtual 214, 3) := by decide +kernel
theorem dX8_inspect_121 : decode cX8_inspect 121 = .ok (.iconst 0, 1) := by decide +kernel
theorem dX8_inspect_122 : decode cX8_inspect 122 = .ok (.ireturn, 1) := by decide +kernel
theorem dX8_inspect_123 : decode cX8_inspect 123 = .ok (.aload_n 0, 1) := by decide +kernel
theorem dX8_inspect_124 : decode cX8_inspect 124 = .ok (.iload_n 1, 1) := by decide +kernel
theorem dX8_inspect_125 : decode cX8_inspect 125 = .ok (.bipush 20, 2) := by decide +kernel
theorem dX8_inspect_127 : decode cX8_inspect 127 = .ok (.aload_n 0, 1) := by decide +kernel
theorem dX8_inspect_128 : decode cX8_inspect 128 = .ok (.iload_n 1, 1) := by decide +kernel
theorem dX8_inspect_129 : decode cX8_inspect 129 = .ok (.bipush 20, 2) := by decide +kernel
theorem dX8_inspect_131 : decode cX8_inspect 131 = .ok (.invokevirtual 63, 3) := by decide +kernel
theorem dX8_inspect_134 : decode cX8_inspect 134 = .ok (.iconst 1, 1) := by decide +kernel
theorem dX8_inspect_135 : decode cX8_inspect 135 = .ok (.iadd, 1) := by decide +kernel
theorem dX8_inspect_136 : decode cX8_inspect 136 = .ok (.invokevirtual 214, 3) := by decide +kernel
theorem dX8_inspect_139 : decode cX8_inspect 139 = .ok (.aload_n 0, 1) := by decide +kernel
theorem dX8_inspect_140 : decode cX8_inspect 140 = .ok (.iload_n 1, 1) := by decide +kernel
theorem dX8_inspect_141 : decode cX8_inspect 141 = .ok (.bipush 21, 2) := by decide +kernel
theorem dX8_inspect_143 : decode cX8_inspect 143 = .ok (.iconst 0, 1) := by decide +kernel
theorem dX8_inspect_144 : decode cX8_inspect 144 = .ok (.invokevirtual 214, 3) := by decide +kernel
theorem dX8_inspect_147 : decode cX8_inspect 147 = .ok (.aload_n 0, 1) := by decide +kernel
theorem dX8_inspect_148 : decode cX8_inspect 148 = .ok (.iload_n 1, 1) := by decide +kernel
theorem dX8_inspect_149 : decode cX8_inspect 149 = .ok (.bipush 22, 2) := by decide +kernel
theorem dX8_inspect_151 : decode cX8_inspect 151 = .ok (.aload_n 0, 1) := by decide +kernel
theorem dX8_inspect_152 : decode cX8_inspect 152 = .ok (.getfield 13, 3) := by decide +kernel
theorem dX8_inspect_155 : decode cX8_inspect 155 = .ok (.iconst 0, 1) := by decide +kernel
theorem dX8_inspect_156 : decode cX8_inspect 156 = .ok (.iaload, 1) := by decide +kernel
theorem dX8_inspect_157 : decode cX8_inspect 157 = .ok (.bipush 30, 2) := by decide +kernel
theorem dX8_inspect_159 : decode cX8_inspect 159 = .ok (.iadd, 1) := by decide +kernel
theorem dX8_inspect_160 : decode cX8_inspect 160 = .ok (.invokevirtual 214, 3) := by decide +kernel
theorem dX8_inspect_163 : decode cX8_inspect 163 = .ok (.aload_n 0, 1) := by decide +kernel
theorem dX8_inspect_164 : decode cX8_inspect 164 = .ok (.iload_n 1, 1) := by decide +kernel
theorem dX8_inspect_165 : decode cX8_inspect 165 = .ok (.bipush 19, 2) := by decide +kernel
theorem dX8_inspect_167 : decode cX8_inspect 167 = .ok (.aload_n 0, 1) := by decide +kernel
theorem dX8_inspect_168 : decode cX8_inspect 168 = .ok (.iload_n 1, 1) := by decide +kernel
theorem dX8_inspect_169 : decode cX8_inspect 169 = .ok (.bipush 20, 2) := by decide +kernel
theorem dX8_inspect_171 : decode cX8_inspect 171 = .ok (.invokevirtual 63, 3) := by decide +kernel
theorem dX8_inspect_174 : decode cX8_inspect 174 = .ok (.iconst 4, 1) := by decide +kernel
theorem dX8_inspect_175 : decode cX8_inspect 175 = .ok (.if_icmp .ne 7, 3) := by decide +kernel
theorem dX8_inspect_178 : decode cX8_inspect 178 = .ok (.iconst 3, 1) := by decide +kernel
theorem dX8_inspect_179 : decode cX8_inspect 179 = .ok (.goto 4, 3) := by decide +kernel
theorem dX8_inspect_182 : decode cX8_inspect 182 = .ok (.iconst 2, 1) := by decide +kernel
theorem dX8_inspect_183 : decode cX8_inspect 183 = .ok (.invokevirtual 214, 3) := by decide +kernel
theorem dX8_inspect_186 : decode cX8_inspect 186 = .ok (.iconst 1, 1) := by decide +kernel
theorem dX8_inspect_187 : decode cX8_inspect 187 = .ok (.ireturn, 1) := by decide +kernel
theorem dX8_reinstate_0 : decode cX8_reinstate 0 = .ok (.aload_n 0, 1) := by decide +kernel
theorem dX8_reinstate_1 : decode cX8_reinstate 1 = .ok (.aload_n 0, 1) := by decide +kernel
theorem dX8_reinstate_2 : decode cX8_reinstate 2 = .ok (.iload_n 1, 1) := by decide +kernel
theorem dX8_reinstate_3 : decode cX8_reinstate 3 = .ok (.invokevirtual 273, 3) := by decide +kernel
theorem dX8_reinstate_6 : decode cX8_reinstate 6 = .ok (.ifCond .ne 7, 3) := by decide +kernel
theorem dX8_reinstate_9 : decode cX8_reinstate 9 = .ok (.iconst 1, 1) := by decide +kernel
theorem dX8_reinstate_10 : decode cX8_reinstate 10 = .ok (.goto 20, 3) := by decide +kernel
theorem dX8_reinstate_13 : decode cX8_reinstate 13 = .ok (.aload_n 0, 1) := by decide +kernel
theorem dX8_reinstate_14 : decode cX8_reinstate 14 = .ok (.iload_n 1, 1) := by decide +kernel
theorem dX8_reinstate_15 : decode cX8_reinstate 15 = .ok (.bipush 19, 2) := by decide +kernel
theorem dX8_reinstate_17 : decode cX8_reinstate 17 = .ok (.invokevirtual 63, 3) := by decide +kernel
theorem dX8_reinstate_20 : decode cX8_reinstate 20 = .ok (.bipush 6, 2) := by decide +kernel
theorem dX8_reinstate_22 : decode cX8_reinstate 22 = .ok (.if_icmp .eq 7, 3) := by decide +kernel
theorem dX8_reinstate_25 : decode cX8_reinstate 25 = .ok (.iconst 2, 1) := by decide +kernel
theorem dX8_reinstate_26 : decode cX8_reinstate 26 = .ok (.goto 4, 3) := by decide +kernel
theorem dX8_reinstate_29 : decode cX8_reinstate 29 = .ok (.iconst 0, 1) := by decide +kernel
theorem dX8_reinstate_30 : decode cX8_reinstate 30 = .ok (.putfield 1, 3) := by decide +kernel
theorem dX8_reinstate_33 : decode cX8_reinstate 33 = .ok (.aload_n 0, 1) := by decide +kernel
theorem dX8_reinstate_34 : decode cX8_reinstate 34 = .ok (.getfield 1, 3) := by decide +kernel
theorem dX8_reinstate_37 : decode cX8_reinstate 37 = .ok (.ifCond .eq 5, 3) := by decide +kernel
theorem dX8_reinstate_40 : decode cX8_reinstate 40 = .ok (.iconst 0, 1) := by decide +kernel
theorem dX8_reinstate_41 : decode cX8_reinstate 41 = .ok (.ireturn, 1) := by decide +kernel
theorem dX8_reinstate_42 : decode cX8_reinstate 42 = .ok (.aload_n 0, 1) := by decide +kernel
theorem dX8_reinstate_43 : decode cX8_reinstate 43 = .ok (.invokevirtual 261, 3) := by decide +kernel
theorem dX8_reinstate_46 : decode cX8_reinstate 46 = .ok (.aload_n 0, 1) := by decide +kernel
theorem dX8_reinstate_47 : decode cX8_reinstate 47 = .ok (.iload_n 1, 1) := by decide +kernel
theorem dX8_reinstate_48 : decode cX8_reinstate 48 = .ok (.bipush 19, 2) := by decide +kernel
theorem dX8_reinstate_50 : decode cX8_reinstate 50 = .ok (.iconst 2, 1) := by decide +kernel
theorem dX8_reinstate_51 : decode cX8_reinstate 51 = .ok (.invokevirtual 214, 3) := by decide +kernel
theorem dX8_reinstate_54 : decode cX8_reinstate 54 = .ok (.aload_n 0, 1) := by decide +kernel
theorem dX8_reinstate_55 : decode cX8_reinstate 55 = .ok (.iload_n 1, 1) := by decide +kernel
theorem dX8_reinstate_56 : decode cX8_reinstate 56 = .ok (.bipush 21, 2) := by decide +kernel
theorem dX8_reinstate_58 : decode cX8_reinstate 58 = .ok (.iconst 0, 1) := by decide +kernel
theorem dX8_reinstate_59 : decode cX8_reinstate 59 = .ok (.invokevirtual 214, 3) := by decide +kernel
theorem dX8_reinstate_62 : decode cX8_reinstate 62 = .ok (.aload_n 0, 1) := by decide +kernel
theorem dX8_reinstate_63 : decode cX8_reinstate 63 = .ok (.iload_n 1, 1) := by decide +kernel
theorem dX8_reinstate_64 : decode cX8_reinstate 64 = .ok (.bipush 22, 2) := by decide +kernel
theorem dX8_reinstate_66 : decode cX8_reinstate 66 = .ok (.aload_n 0, 1) := by decide +kernel
theorem dX8_reinstate_67 : decode cX8_reinstate 67 = .ok (.getfield 13, 3) := by decide +kernel
theorem dX8_reinstate_70 : decode cX8_reinstate 70 = .ok (.iconst 0, 1) := by decide +kernel
theorem dX8_reinstate_71 : decode cX8_reinstate 71 = .ok (.iaload, 1) := by decide +kernel
theorem dX8_reinstate_72 : decode cX8_reinstate 72 = .ok (.bipush 30, 2) := by decide +kernel
theorem dX8_reinstate_74 : decode cX8_reinstate 74 = .ok (.iadd, 1) := by decide +kernel
theorem dX8_reinstate_75 : decode cX8_reinstate 75 = .ok (.invokevirtual 214, 3) := by decide +kernel
theorem dX8_reinstate_78 : decode cX8_reinstate 78 = .ok (.aload_n 0, 1) := by decide +kernel
theorem dX8_reinstate_79 : decode cX8_reinstate 79 = .ok (.iload_n 1, 1) := by decide +kernel
theorem dX8_reinstate_80 : decode cX8_reinstate 80 = .ok (.bipush 25, 2) := by decide +kernel
theorem dX8_reinstate_82 : decode cX8_reinstate 82 = .ok (.invokevirtual 285, 3) := by decide +kernel
theorem dX8_reinstate_85 : decode cX8_reinstate 85 = .ok (.aload_n 0, 1) := by decide +kernel
theorem dX8_reinstate_86 : decode cX8_reinstate 86 = .ok (.iload_n 1, 1) := by decide +kernel
theorem dX8_reinstate_87 : decode cX8_reinstate 87 = .ok (.bipush 20, 2) := by decide +kernel
theorem dX8_reinstate_89 : decode cX8_reinstate 89 = .ok (.invokevirtual 63, 3) := by decide +kernel
theorem dX8_reinstate_92 : decode cX8_reinstate 92 = .ok (.ireturn, 1) := by decide +kernel
theorem dX8_extend_0 : decode cX8_extend 0 = .ok (.aload_n 0, 1) := by decide +kernel
theorem dX8_extend_1 : decode cX8_extend 1 = .ok (.aload_n 0, 1) := by decide +kernel
theorem dX8_extend_2 : decode cX8_extend 2 = .ok (.iload_n 1, 1) := by decide +kernel
theorem dX8_extend_3 : decode cX8_extend 3 = .ok (.invokevirtual 273, 3) := by decide +kernel
theorem dX8_extend_6 : decode cX8_extend 6 = .ok (.ifCond .ne 7, 3) := by decide +kernel
theorem dX8_extend_9 : decode cX8_extend 9 = .ok (.iconst 1, 1) := by decide +kernel
theorem dX8_extend_10 : decode cX8_extend 10 = .ok (.goto 30, 3) := by decide +kernel
theorem dX8_extend_13 : decode cX8_extend 13 = .ok (.aload_n 0, 1) := by decide +kernel
theorem dX8_extend_14 : decode cX8_extend 14 = .ok (.iload_n 1, 1) := by decide +kernel
theorem dX8_extend_15 : decode cX8_extend 15 = .ok (.bipush 19, 2) := by decide +kernel
theorem dX8_extend_17 : decode cX8_extend 17 = .ok (.invokevirtual 63, 3) := by decide +kernel
theorem dX8_extend_20 : decode cX8_extend 20 = .ok (.iconst 2, 1) := by decide +kernel
theorem dX8_extend_21 : decode cX8_extend 21 = .ok (.if_icmp .ne 14, 3) := by decide +kernel
theorem dX8_extend_24 : decode cX8_extend 24 = .ok (.aload_n 0, 1) := by decide +kernel
theorem dX8_extend_25 : decode cX8_extend 25 = .ok (.iload_n 1, 1) := by decide +kernel
theorem dX8_extend_26 : decode cX8_extend 26 = .ok (.bipush 23, 2) := by decide +kernel
theorem dX8_extend_28 : decode cX8_extend 28 = .ok (.invokevirtual 63, 3) := by decide +kernel
theorem dX8_extend_31 : decode cX8_extend 31 = .ok (.iconst 1, 1) := by decide +kernel
theorem dX8_extend_32 : decode cX8_extend 32 = .ok (.if_icmp .ne 7, 3) := by decide +kernel
theorem dX8_extend_35 : decode cX8_extend 35 = .ok (.iconst 2, 1) := by decide +kernel
theorem dX8_extend_36 : decode cX8_extend 36 = .ok (.goto 4, 3) := by decide +kernel
theorem dX8_extend_39 : decode cX8_extend 39 = .ok (.iconst 0, 1) := by decide +kernel
theorem dX8_extend_40 : decode cX8_extend 40 = .ok (.putfield 1, 3) := by decide +kernel
theorem dX8_extend_43 : decode cX8_extend 43 = .ok (.aload_n 0, 1) := by decide +kernel
theorem dX8_extend_44 : decode cX8_extend 44 = .ok (.getfield 1, 3) := by decide +kernel
theorem dX8_extend_47 : decode cX8_extend 47 = .ok (.ifCond .eq 5, 3) := by decide +kernel
theorem dX8_extend_50 : decode cX8_extend 50 = .ok (.iconst 0, 1) := by decide +kernel
theorem dX8_extend_51 : decode cX8_extend 51 = .ok (.ireturn, 1) := by decide +kernel
theorem dX8_extend_52 : decode cX8_extend 52 = .ok (.aload_n 0, 1) := by decide +kernel
theorem dX8_extend_53 : decode cX8_extend 53 = .ok (.invokevirtual 261, 3) := by decide +kernel
theorem dX8_extend_56 : decode cX8_extend 56 = .ok (.aload_n 0, 1) := by decide +kernel
theorem dX8_extend_57 : decode cX8_extend 57 = .ok (.iload_n 1, 1) := by decide +kernel
theorem dX8_extend_58 : decode cX8_extend 58 = .ok (.bipush 23, 2) := by decide +kernel
theorem dX8_extend_60 : decode cX8_extend 60 = .ok (.iconst 1, 1) := by decide +kernel
theorem dX8_extend_61 : decode cX8_extend 61 = .ok (.invokevirtual 214, 3) := by decide +kernel
theorem dX8_extend_64 : decode cX8_extend 64 = .ok (.aload_n 0, 1) := by decide +kernel
theorem dX8_extend_65 : decode cX8_extend 65 = .ok (.iload_n 1, 1) := by decide +kernel
theorem dX8_extend_66 : decode cX8_extend 66 = .ok (.bipush 22, 2) := by decide +kernel
theorem dX8_extend_68 : decode cX8_extend 68 = .ok (.aload_n 0, 1) := by decide +kernel
theorem dX8_extend_69 : decode cX8_extend 69 = .ok (.iload_n 1, 1) := by decide +kernel
theorem dX8_extend_70 : decode cX8_extend 70 = .ok (.bipush 22, 2) := by decide +kernel
theorem dX8_extend_72 : decode cX8_extend 72 = .ok (.invokevirtual 63, 3) := by decide +kernel
theorem dX8_extend_75 : decode cX8_extend 75 = .ok (.bipush 15, 2) := by decide +kernel
theorem dX8_extend_77 : decode cX8_extend 77 = .ok (.iadd, 1) := by decide +kernel
theorem dX8_extend_78 : decode cX8_extend 78 = .ok (.invokevirtual 214, 3) := by decide +kernel
theorem dX8_extend_81 : decode cX8_extend 81 = .ok (.aload_n 0, 1) := by decide +kernel
theorem dX8_extend_82 : decode cX8_extend 82 = .ok (.iload_n 1, 1) := by decide +kernel
theorem dX8_extend_83 : decode cX8_extend 83 = .ok (.bipush 15, 2) := by decide +kernel
theorem dX8_extend_85 : decode cX8_extend 85 = .ok (.invokevirtual 285, 3) := by decide +kernel
theorem dX8_extend_88 : decode cX8_extend 88 = .ok (.aload_n 0, 1) := by decide +kernel
theorem dX8_extend_89 : decode cX8_extend 89 = .ok (.iload_n 1, 1) := by decide +kernel
theorem dX8_extend_90 : decode cX8_extend 90 = .ok (.bipush 22, 2) := by decide +kernel
theorem dX8_extend_92 : decode cX8_extend 92 = .ok (.invokevirtual 63, 3) := by decide +kernel
theorem dX8_extend_95 : decode cX8_extend 95 = .ok (.ireturn, 1) := by decide +kernel
theorem dX8_pass_0 : decode cX8_pass 0 = .ok (.aload_n 0, 1) := by decide +kernel
theorem dX8_pass_1 : decode cX8_pass 1 = .ok (.iconst 0, 1) := by decide +kernel
theorem dX8_pass_2 : decode cX8_pass 2 = .ok (.putfield 1, 3) := by decide +kernel
theorem dX8_pass_5 : decode cX8_pass 5 = .ok (.iload_n 1, 1) := by decide +kernel
theorem dX8_pass_6 : decode cX8_pass 6 = .ok (.iconst 1, 1) := by decide +kernel
theorem dX8_pass_7 : decode cX8_pass 7 = .ok (.bipush 50, 2) := by decide +kernel
theorem dX8_pass_9 : decode cX8_pass 9 = .ok (.invokestatic 49, 3) := by decide +kernel
theorem dX8_pass_12 : decode cX8_pass 12 = .ok (.ifCond .ne 9, 3) := by decide +kernel
theorem dX8_pass_15 : decode cX8_pass 15 = .ok (.aload_n 0, 1) := by decide +kernel
theorem dX8_pass_16 : decode cX8_pass 16 = .ok (.iconst 1, 1) := by decide +kernel
theorem dX8_pass_17 : decode cX8_pass 17 = .ok (.invokevirtual 163, 3) := by decide +kernel
theorem dX8_pass_20 : decode cX8_pass 20 = .ok (.ireturn, 1) := by decide +kernel
theorem dX8_pass_21 : decode cX8_pass 21 = .ok (.aload_n 0, 1) := by decide +kernel
theorem dX8_pass_22 : decode cX8_pass 22 = .ok (.invokevirtual 261, 3) := by decide +kernel
theorem dX8_pass_25 : decode cX8_pass 25 = .ok (.aload_n 0, 1) := by decide +kernel
theorem dX8_pass_26 : decode cX8_pass 26 = .ok (.getfield 13, 3) := by decide +kernel
theorem dX8_pass_29 : decode cX8_pass 29 = .ok (.iconst 0, 1) := by decide +kernel
theorem dX8_pass_30 : decode cX8_pass 30 = .ok (.dup2, 1) := by decide +kernel
theorem dX8_pass_31 : decode cX8_pass 31 = .ok (.iaload, 1) := by decide +kernel
theorem dX8_pass_32 : decode cX8_pass 32 = .ok (.iload_n 1, 1) := by decide +kernel
theorem dX8_pass_33 : decode cX8_pass 33 = .ok (.iadd, 1) := by decide +kernel
theorem dX8_pass_34 : decode cX8_pass 34 = .ok (.iastore, 1) := by decide +kernel
theorem dX8_pass_35 : decode cX8_pass 35 = .ok (.iconst 0, 1) := by decide +kernel
theorem dX8_pass_36 : decode cX8_pass 36 = .ok (.istore_n 2, 1) := by decide +kernel
theorem dX8_pass_37 : decode cX8_pass 37 = .ok (.iconst 0, 1) := by decide +kernel
theorem dX8_pass_38 : decode cX8_pass 38 = .ok (.istore_n 3, 1) := by decide +kernel
theorem dX8_pass_39 : decode cX8_pass 39 = .ok (.iload_n 3, 1) := by decide +kernel
theorem dX8_pass_40 : decode cX8_pass 40 = .ok (.aload_n 0, 1) := by decide +kernel
theorem dX8_pass_41 : decode cX8_pass 41 = .ok (.getfield 13, 3) := by decide +kernel
theorem dX8_pass_44 : decode cX8_pass 44 = .ok (.iconst 2, 1) := by decide +kernel
theorem dX8_pass_45 : decode cX8_pass 45 = .ok (.iaload, 1) := by decide +kernel
theorem dX8_pass_46 : decode cX8_pass 46 = .ok (.if_icmp .ge 47, 3) := by decide +kernel
theorem dX8_pass_49 : decode cX8_pass 49 = .ok (.aload_n 0, 1) := by decide +kernel
theorem dX8_pass_50 : decode cX8_pass 50 = .ok (.iload_n 3, 1) := by decide +kernel
theorem dX8_pass_51 : decode cX8_pass 51 = .ok (.bipush 19, 2) := by decide +kernel
theorem dX8_pass_53 : decode cX8_pass 53 = .ok (.invokevirtual 63, 3) := by decide +kernel
theorem dX8_pass_56 : decode cX8_pass 56 = .ok (.iconst 2, 1) := by decide +kernel
theorem dX8_pass_57 : decode cX8_pass 57 = .ok (.if_icmp .ne 30, 3) := by decide +kernel
theorem dX8_pass_60 : decode cX8_pass 60 = .ok (.aload_n 0, 1) := by decide +kernel
theorem dX8_pass_61 : decode cX8_pass 61 = .ok (.getfield 13, 3) := by decide +kernel
theorem dX8_pass_64 : decode cX8_pass 64 = .ok (.iconst 0, 1) := by decide +kernel
theorem dX8_pass_65 : decode cX8_pass 65 = .ok (.iaload, 1) := by decide +kernel
theorem dX8_pass_66 : decode cX8_pass 66 = .ok (.aload_n 0, 1) := by decide +kernel
theorem dX8_pass_67 : decode cX8_pass 67 = .ok (.iload_n 3, 1) := by decide +kernel
theorem dX8_pass_68 : decode cX8_pass 68 = .ok (.bipush 22, 2) := by decide +kernel
theorem dX8_pass_70 : decode cX8_pass 70 = .ok (.invokevirtual 63, 3) := by decide +kernel
theorem dX8_pass_73 : decode cX8_pass 73 = .ok (.if_icmp .le 14, 3) := by decide +kernel
theorem dX8_pass_76 : decode cX8_pass 76 = .ok (.aload_n 0, 1) := by decide +kernel
theorem dX8_pass_77 : decode cX8_pass 77 = .ok (.iload_n 3, 1) := by decide +kernel
theorem dX8_pass_78 : decode cX8_pass 78 = .ok (.bipush 19, 2) := by decide +kernel
theorem dX8_pass_80 : decode cX8_pass 80 = .ok (.iconst 4, 1) := by decide +kernel
theorem dX8_pass_81 : decode cX8_pass 81 = .ok (.invokevirtual 214, 3) := by decide +kernel
theorem dX8_pass_84 : decode cX8_pass 84 = .ok (.iinc 2 1, 3) := by decide +kernel
theorem dX8_pass_87 : decode cX8_pass 87 = .ok (.iinc 3 1, 3) := by decide +kernel
theorem dX8_pass_90 : decode cX8_pass 90 = .ok (.goto (-51), 3) := by decide +kernel
theorem dX8_pass_93 : decode cX8_pass 93 = .ok (.iload_n 2, 1) := by decide +kernel
theorem dX8_pass_94 : decode cX8_pass 94 = .ok (.ireturn, 1) := by decide +kernel
theorem dX8_sumOf_0 : decode cX8_sumOf 0 = .ok (.iconst 0, 1) := by decide +kernel
theorem dX8_sumOf_1 : decode cX8_sumOf 1 = .ok (.istore_n 3, 1) := by decide +kernel
theorem dX8_sumOf_2 : decode cX8_sumOf 2 = .ok (.iconst 0, 1) := by decide +kernel
theorem dX8_sumOf_3 : decode cX8_sumOf 3 = .ok (.istore 4, 2) := by decide +kernel
theorem dX8_sumOf_5 : decode cX8_sumOf 5 = .ok (.iload 4, 2) := by decide +kernel
theorem dX8_sumOf_7 : decode cX8_sumOf 7 = .ok (.aload_n 0, 1) := by decide +kernel
theorem dX8_sumOf_8 : decode cX8_sumOf 8 = .ok (.getfield 13, 3) := by decide +kernel
theorem dX8_sumOf_11 : decode cX8_sumOf 11 = .ok (.iconst 2, 1) := by decide +kernel
theorem dX8_sumOf_12 : decode cX8_sumOf 12 = .ok (.iaload, 1) := by decide +kernel
theorem dX8_sumOf_13 : decode cX8_sumOf 13 = .ok (.if_icmp .ge 34, 3) := by decide +kernel
theorem dX8_sumOf_16 : decode cX8_sumOf 16 = .ok (.iload_n 3, 1) := by decide +kernel
theorem dX8_sumOf_17 : decode cX8_sumOf 17 = .ok (.iload_n 1, 1) := by decide +kernel
theorem dX8_sumOf_18 : decode cX8_sumOf 18 = .ok (.iconst (-1), 1) := by decide +kernel
theorem dX8_sumOf_19 : decode cX8_sumOf 19 = .ok (.if_icmp .eq 9, 3) := by decide +kernel
theorem dX8_sumOf_22 : decode cX8_sumOf 22 = .ok (.iload_n 1, 1) := by decide +kernel
theorem dX8_sumOf_23 : decode cX8_sumOf 23 = .ok (.iload 4, 2) := by decide +kernel
theorem dX8_sumOf_25 : decode cX8_sumOf 25 = .ok (.if_icmp .ne 13, 3) := by decide +kernel
theorem dX8_sumOf_28 : decode cX8_sumOf 28 = .ok (.aload_n 0, 1) := by decide +kernel
theorem dX8_sumOf_29 : decode cX8_sumOf 29 = .ok (.iload 4, 2) := by decide +kernel
theorem dX8_sumOf_31 : decode cX8_sumOf 31 = .ok (.iload_n 2, 1) := by decide +kernel
theorem dX8_sumOf_32 : decode cX8_sumOf 32 = .ok (.invokevirtual 63, 3) := by decide +kernel
theorem dX8_sumOf_35 : decode cX8_sumOf 35 = .ok (.goto 4, 3) := by decide +kernel
theorem dX8_sumOf_38 : decode cX8_sumOf 38 = .ok (.iconst 0, 1) := by decide +kernel
theorem dX8_sumOf_39 : decode cX8_sumOf 39 = .ok (.iadd, 1) := by decide +kernel
theorem dX8_sumOf_40 : decode cX8_sumOf 40 = .ok (.istore_n 3, 1) := by decide +kernel
theorem dX8_sumOf_41 : decode cX8_sumOf 41 = .ok (.iinc 4 1, 3) := by decide +kernel
theorem dX8_sumOf_44 : decode cX8_sumOf 44 = .ok (.goto (-39), 3) := by decide +kernel
theorem dX8_sumOf_47 : decode cX8_sumOf 47 = .ok (.iload_n 3, 1) := by decide +kernel
theorem dX8_sumOf_48 : decode cX8_sumOf 48 = .ok (.ireturn, 1) := by decide +kernel
theorem dX8_account_0 : decode cX8_account 0 = .ok (.aload_n 0, 1) := by decide +kernel
theorem dX8_account_1 : decode cX8_account 1 = .ok (.iload_n 1, 1) := by decide +kernel
theorem dX8_account_2 : decode cX8_account 2 = .ok (.iconst (-1), 1) := by decide +kernel
theorem dX8_account_3 : decode cX8_account 3 = .ok (.if_icmp .eq 15, 3) := by decide +kernel
theorem dX8_account_6 : decode cX8_account 6 = .ok (.aload_n 0, 1) := by decide +kernel
theorem dX8_account_7 : decode cX8_account 7 = .ok (.iload_n 1, 1) := by decide +kernel
theorem dX8_account_8 : decode cX8_account 8 = .ok (.invokevirtual 273, 3) := by decide +kernel
theorem dX8_account_11 : decode cX8_account 11 = .ok (.ifCond .ne 7, 3) := by decide +kernel
theorem dX8_account_14 : decode cX8_account 14 = .ok (.iconst 1, 1) := by decide +kernel
theorem dX8_account_15 : decode cX8_account 15 = .ok (.goto 17, 3) := by decide +kernel
theorem dX8_account_18 : decode cX8_account 18 = .ok (.iload_n 2, 1) := by decide +kernel
theorem dX8_account_19 : decode cX8_account 19 = .ok (.iconst 0, 1) := by decide +kernel
theorem dX8_account_20 : decode cX8_account 20 = .ok (.iconst 2, 1) := by decide +kernel
theorem dX8_account_21 : decode cX8_account 21 = .ok (.invokestatic 49, 3) := by decide +kernel
theorem dX8_account_24 : decode cX8_account 24 = .ok (.ifCond .ne 7, 3) := by decide +kernel
theorem dX8_account_27 : decode cX8_account 27 = .ok (.iconst 2, 1) := by decide +kernel
theorem dX8_account_28 : decode cX8_account 28 = .ok (.goto 4, 3) := by decide +kernel
theorem dX8_account_31 : decode cX8_account 31 = .ok (.iconst 0, 1) := by decide +kernel
theorem dX8_account_32 : decode cX8_account 32 = .ok (.putfield 1, 3) := by decide +kernel
theorem dX8_account_35 : decode cX8_account 35 = .ok (.aload_n 0, 1) := by decide +kernel
theorem dX8_account_36 : decode cX8_account 36 = .ok (.getfield 1, 3) := by decide +kernel
theorem dX8_account_39 : decode cX8_account 39 = .ok (.ifCond .eq 5, 3) := by decide +kernel
theorem dX8_account_42 : decode cX8_account 42 = .ok (.iconst 0, 1) := by decide +kernel
theorem dX8_account_43 : decode cX8_account 43 = .ok (.ireturn, 1) := by decide +kernel
theorem dX8_account_44 : decode cX8_account 44 = .ok (.aload_n 0, 1) := by decide +kernel
theorem dX8_account_45 : decode cX8_account 45 = .ok (.iload_n 1, 1) := by decide +kernel
theorem dX8_account_46 : decode cX8_account 46 = .ok (.bipush 25, 2) := by decide +kernel
theorem dX8_account_48 : decode cX8_account 48 = .ok (.invokevirtual 308, 3) := by decide +kernel
theorem dX8_account_51 : decode cX8_account 51 = .ok (.istore_n 3, 1) := by decide +kernel
theorem dX8_account_52 : decode cX8_account 52 = .ok (.aload_n 0, 1) := by decide +kernel
theorem dX8_account_53 : decode cX8_account 53 = .ok (.iload_n 1, 1) := by decide +kernel
theorem dX8_account_54 : decode cX8_account 54 = .ok (.bipush 26, 2) := by decide +kernel
theorem dX8_account_56 : decode cX8_account 56 = .ok (.invokevirtual 308, 3) := by decide +kernel
theorem dX8_account_59 : decode cX8_account 59 = .ok (.istore 4, 2) := by decide +kernel
theorem dX8_account_61 : decode cX8_account 61 = .ok (.iload_n 2, 1) := by decide +kernel
theorem dX8_account_62 : decode cX8_account 62 = .ok (.ifCond .ne 7, 3) := by decide +kernel
theorem dX8_account_65 : decode cX8_account 65 = .ok (.iload_n 3, 1) := by decide +kernel
theorem dX8_account_66 : decode cX8_account 66 = .ok (.goto 17, 3) := by decide +kernel
theorem dX8_account_69 : decode cX8_account 69 = .ok (.iload_n 2, 1) := by decide +kernel
theorem dX8_account_70 : decode cX8_account 70 = .ok (.iconst 1, 1) := by decide +kernel
theorem dX8_account_71 : decode cX8_account 71 = .ok (.if_icmp .ne 8, 3) := by decide +kernel
theorem dX8_account_74 : decode cX8_account 74 = .ok (.iload 4, 2) := by decide +kernel
theorem dX8_account_76 : decode cX8_account 76 = .ok (.goto 7, 3) := by decide +kernel
theorem dX8_account_79 : decode cX8_account 79 = .ok (.iload_n 3, 1) := by decide +kernel
theorem dX8_account_80 : decode cX8_account 80 = .ok (.iload 4, 2) := by decide +kernel
theorem dX8_account_82 : decode cX8_account 82 = .ok (.isub, 1) := by decide +kernel
theorem dX8_account_83 : decode cX8_account 83 = .ok (.ireturn, 1) := by decide +kernel
theorem dX8_counted_0 : decode cX8_counted 0 = .ok (.iconst 0, 1) := by decide +kernel
theorem dX8_counted_1 : decode cX8_counted 1 = .ok (.istore_n 2, 1) := by decide +kernel
theorem dX8_counted_2 : decode cX8_counted 2 = .ok (.iconst 0, 1) := by decide +kernel
theorem dX8_counted_3 : decode cX8_counted 3 = .ok (.istore_n 3, 1) := by decide +kernel
theorem dX8_counted_4 : decode cX8_counted 4 = .ok (.iload_n 3, 1) := by decide +kernel
theorem dX8_counted_5 : decode cX8_counted 5 = .ok (.aload_n 0, 1) := by decide +kernel
theorem dX8_counted_6 : decode cX8_counted 6 = .ok (.getfield 13, 3) := by decide +kernel
theorem dX8_counted_9 : decode cX8_counted 9 = .ok (.iconst 2, 1) := by decide +kernel
theorem dX8_counted_10 : decode cX8_counted 10 = .ok (.iaload, 1) := by decide +kernel
theorem dX8_counted_11 : decode cX8_counted 11 = .ok (.if_icmp .ge 49, 3) := by decide +kernel
theorem dX8_counted_14 : decode cX8_counted 14 = .ok (.iload_n 2, 1) := by decide +kernel
theorem dX8_counted_15 : decode cX8_counted 15 = .ok (.iload_n 1, 1) := by decide +kernel
theorem dX8_counted_16 : decode cX8_counted 16 = .ok (.iconst (-1), 1) := by decide +kernel
theorem dX8_counted_17 : decode cX8_counted 17 = .ok (.if_icmp .ne 19, 3) := by decide +kernel
theorem dX8_counted_20 : decode cX8_counted 20 = .ok (.aload_n 0, 1) := by decide +kernel
theorem dX8_counted_21 : decode cX8_counted 21 = .ok (.iload_n 3, 1) := by decide +kernel
theorem dX8_counted_22 : decode cX8_counted 22 = .ok (.invokevirtual 91, 3) := by decide +kernel
theorem dX8_counted_25 : decode cX8_counted 25 = .ok (.ifCond .eq 7, 3) := by decide +kernel
theorem dX8_counted_28 : decode cX8_counted 28 = .ok (.iconst 1, 1) := by decide +kernel
theorem dX8_counted_29 : decode cX8_counted 29 = .ok (.goto 23, 3) := by decide +kernel
theorem dX8_counted_32 : decode cX8_counted 32 = .ok (.iconst 0, 1) := by decide +kernel
theorem dX8_counted_33 : decode cX8_counted 33 = .ok (.goto 19, 3) := by decide +kernel
theorem dX8_counted_36 : decode cX8_counted 36 = .ok (.aload_n 0, 1) := by decide +kernel
theorem dX8_counted_37 : decode cX8_counted 37 = .ok (.iload_n 3, 1) := by decide +kernel
theorem dX8_counted_38 : decode cX8_counted 38 = .ok (.bipush 19, 2) := by decide +kernel
theorem dX8_counted_40 : decode cX8_counted 40 = .ok (.invokevirtual 63, 3) := by decide +kernel
theorem dX8_counted_43 : decode cX8_counted 43 = .ok (.iload_n 1, 1) := by decide +kernel
theorem dX8_counted_44 : decode cX8_counted 44 = .ok (.if_icmp .ne 7, 3) := by decide +kernel
theorem dX8_counted_47 : decode cX8_counted 47 = .ok (.iconst 1, 1) := by decide +kernel
theorem dX8_counted_48 : decode cX8_counted 48 = .ok (.goto 4, 3) := by decide +kernel
theorem dX8_counted_51 : decode cX8_counted 51 = .ok (.iconst 0, 1) := by decide +kernel
theorem dX8_counted_52 : decode cX8_counted 52 = .ok (.iadd, 1) := by decide +kernel
theorem dX8_counted_53 : decode cX8_counted 53 = .ok (.istore_n 2, 1) := by decide +kernel
theorem dX8_counted_54 : decode cX8_counted 54 = .ok (.iinc 3 1, 3) := by decide +kernel
theorem dX8_counted_57 : decode cX8_counted 57 = .ok (.goto (-53), 3) := by decide +kernel
theorem dX8_counted_60 : decode cX8_counted 60 = .ok (.iload_n 2, 1) := by decide +kernel
theorem dX8_counted_61 : decode cX8_counted 61 = .ok (.ireturn, 1) := by decide +kernel
theorem dX8_meanFloorArea_0 : decode cX8_meanFloorArea 0 = .ok (.aload_n 0, 1) := by decide +kernel
theorem dX8_meanFloorArea_1 : decode cX8_meanFloorArea 1 = .ok (.iconst 0, 1) := by decide +kernel
theorem dX8_meanFloorArea_2 : decode cX8_meanFloorArea 2 = .ok (.putfield 1, 3) := by decide +kernel
theorem dX8_meanFloorArea_5 : decode cX8_meanFloorArea 5 = .ok (.aload_n 0, 1) := by decide +kernel
theorem dX8_meanFloorArea_6 : decode cX8_meanFloorArea 6 = .ok (.iconst (-1), 1) := by decide +kernel
theorem dX8_meanFloorArea_7 : decode cX8_meanFloorArea 7 = .ok (.invokevirtual 311, 3) := by decide +kernel
theorem dX8_meanFloorArea_10 : decode cX8_meanFloorArea 10 = .ok (.istore_n 1, 1) := by decide +kernel
theorem dX8_meanFloorArea_11 : decode cX8_meanFloorArea 11 = .ok (.iconst 0, 1) := by decide +kernel
theorem dX8_meanFloorArea_12 : decode cX8_meanFloorArea 12 = .ok (.istore_n 2, 1) := by decide +kernel
theorem dX8_meanFloorArea_13 : decode cX8_meanFloorArea 13 = .ok (.iconst 0, 1) := by decide +kernel
theorem dX8_meanFloorArea_14 : decode cX8_meanFloorArea 14 = .ok (.istore_n 3, 1) := by decide +kernel
theorem dX8_meanFloorArea_15 : decode cX8_meanFloorArea 15 = .ok (.iload_n 3, 1) := by decide +kernel
theorem dX8_meanFloorArea_16 : decode cX8_meanFloorArea 16 = .ok (.aload_n 0, 1) := by decide +kernel
theorem dX8_meanFloorArea_17 : decode cX8_meanFloorArea 17 = .ok (.getfield 13, 3) := by decide +kernel
theorem dX8_meanFloorArea_20 : decode cX8_meanFloorArea 20 = .ok (.iconst 2, 1) := by decide +kernel
theorem dX8_meanFloorArea_21 : decode cX8_meanFloorArea 21 = .ok (.iaload, 1) := by decide +kernel
theorem dX8_meanFloorArea_22 : decode cX8_meanFloorArea 22 = .ok (.if_icmp .ge 29, 3) := by decide +kernel
theorem dX8_meanFloorArea_25 : decode cX8_meanFloorArea 25 = .ok (.iload_n 2, 1) := by decide +kernel
theorem dX8_meanFloorArea_26 : decode cX8_meanFloorArea 26 = .ok (.aload_n 0, 1) := by decide +kernel
theorem dX8_meanFloorArea_27 : decode cX8_meanFloorArea 27 = .ok (.iload_n 3, 1) := by decide +kernel
theorem dX8_meanFloorArea_28 : decode cX8_meanFloorArea 28 = .ok (.invokevirtual 91, 3) := by decide +kernel
theorem dX8_meanFloorArea_31 : decode cX8_meanFloorArea 31 = .ok (.ifCond .eq 11, 3) := by decide +kernel
theorem dX8_meanFloorArea_34 : decode cX8_meanFloorArea 34 = .ok (.aload_n 0, 1) := by decide +kernel
theorem dX8_meanFloorArea_35 : decode cX8_meanFloorArea 35 = .ok (.iload_n 3, 1) := by decide +kernel
theorem dX8_meanFloorArea_36 : decode cX8_meanFloorArea 36 = .ok (.invokevirtual 109, 3) := by decide +kernel
theorem dX8_meanFloorArea_39 : decode cX8_meanFloorArea 39 = .ok (.goto 4, 3) := by decide +kernel
theorem dX8_meanFloorArea_42 : decode cX8_meanFloorArea 42 = .ok (.iconst 0, 1) := by decide +kernel
theorem dX8_meanFloorArea_43 : decode cX8_meanFloorArea 43 = .ok (.iadd, 1) := by decide +kernel
theorem dX8_meanFloorArea_44 : decode cX8_meanFloorArea 44 = .ok (.istore_n 2, 1) := by decide +kernel
theorem dX8_meanFloorArea_45 : decode cX8_meanFloorArea 45 = .ok (.iinc 3 1, 3) := by decide +kernel
theorem dX8_meanFloorArea_48 : decode cX8_meanFloorArea 48 = .ok (.goto (-33), 3) := by decide +kernel
theorem dX8_meanFloorArea_51 : decode cX8_meanFloorArea 51 = .ok (.iload_n 1, 1) := by decide +kernel
theorem dX8_meanFloorArea_52 : decode cX8_meanFloorArea 52 = .ok (.ifCond .ne 12, 3) := by decide +kernel
theorem dX8_meanFloorArea_55 : decode cX8_meanFloorArea 55 = .ok (.aload_n 0, 1) := by decide +kernel
theorem dX8_meanFloorArea_56 : decode cX8_meanFloorArea 56 = .ok (.iconst 1, 1) := by decide +kernel
theorem dX8_meanFloorArea_57 : decode cX8_meanFloorArea 57 = .ok (.invokevirtual 163, 3) := by decide +kernel
theorem dX8_meanFloorArea_60 : decode cX8_meanFloorArea 60 = .ok (.i2f, 1) := by decide +kernel
theorem dX8_meanFloorArea_61 : decode cX8_meanFloorArea 61 = .ok (.goto 8, 3) := by decide +kernel
theorem dX8_meanFloorArea_64 : decode cX8_meanFloorArea 64 = .ok (.iload_n 2, 1) := by decide +kernel
theorem dX8_meanFloorArea_65 : decode cX8_meanFloorArea 65 = .ok (.i2f, 1) := by decide +kernel
theorem dX8_meanFloorArea_66 : decode cX8_meanFloorArea 66 = .ok (.iload_n 1, 1) := by decide +kernel
theorem dX8_meanFloorArea_67 : decode cX8_meanFloorArea 67 = .ok (.i2f, 1) := by decide +kernel
theorem dX8_meanFloorArea_68 : decode cX8_meanFloorArea 68 = .ok (.fdiv, 1) := by decide +kernel
theorem dX8_meanFloorArea_69 : decode cX8_meanFloorArea 69 = .ok (.freturn, 1) := by decide +kernel
theorem dX8_cellsInLots_0 : decode cX8_cellsInLots 0 = .ok (.iconst 0, 1) := by decide +kernel
theorem dX8_cellsInLots_1 : decode cX8_cellsInLots 1 = .ok (.istore_n 1, 1) := by decide +kernel
theorem dX8_cellsInLots_2 : decode cX8_cellsInLots 2 = .ok (.iconst 0, 1) := by decide +kernel
theorem dX8_cellsInLots_3 : decode cX8_cellsInLots 3 = .ok (.istore_n 2, 1) := by decide +kernel
theorem dX8_cellsInLots_4 : decode cX8_cellsInLots 4 = .ok (.iload_n 2, 1) := by decide +kernel
theorem dX8_cellsInLots_5 : decode cX8_cellsInLots 5 = .ok (.aload_n 0, 1) := by decide +kernel
theorem dX8_cellsInLots_6 : decode cX8_cellsInLots 6 = .ok (.getfield 13, 3) := by decide +kernel
theorem dX8_cellsInLots_9 : decode cX8_cellsInLots 9 = .ok (.iconst 1, 1) := by decide +kernel
theorem dX8_cellsInLots_10 : decode cX8_cellsInLots 10 = .ok (.iaload, 1) := by decide +kernel
theorem dX8_cellsInLots_11 : decode cX8_cellsInLots 11 = .ok (.if_icmp .ge 17, 3) := by decide +kernel
theorem dX8_cellsInLots_14 : decode cX8_cellsInLots 14 = .ok (.iload_n 1, 1) := by decide +kernel
theorem dX8_cellsInLots_15 : decode cX8_cellsInLots 15 = .ok (.aload_n 0, 1) := by decide +kernel
theorem dX8_cellsInLots_16 : decode cX8_cellsInLots 16 = .ok (.iload_n 2, 1) := by decide +kernel
theorem dX8_cellsInLots_17 : decode cX8_cellsInLots 17 = .ok (.invokevirtual 115, 3) := by decide +kernel
theorem dX8_cellsInLots_20 : decode cX8_cellsInLots 20 = .ok (.iadd, 1) := by decide +kernel
theorem dX8_cellsInLots_21 : decode cX8_cellsInLots 21 = .ok (.istore_n 1, 1) := by decide +kernel
theorem dX8_cellsInLots_22 : decode cX8_cellsInLots 22 = .ok (.iinc 2 1, 3) := by decide +kernel
theorem dX8_cellsInLots_25 : decode cX8_cellsInLots 25 = .ok (.goto (-21), 3) := by decide +kernel
theorem dX8_cellsInLots_28 : decode cX8_cellsInLots 28 = .ok (.iload_n 1, 1) := by decide +kernel
theorem dX8_cellsInLots_29 : decode cX8_cellsInLots 29 = .ok (.ireturn, 1) := by decide +kernel
theorem dX8_count_0 : decode cX8_count 0 = .ok (.aload_n 0, 1) := by decide +kernel
theorem dX8_count_1 : decode cX8_count 1 = .ok (.iconst 0, 1) := by decide +kernel
theorem dX8_count_2 : decode cX8_count 2 = .ok (.putfield 1, 3) := by decide +kernel
theorem dX8_count_5 : decode cX8_count 5 = .ok (.iload_n 1, 1) := by decide +kernel
theorem dX8_count_6 : decode cX8_count 6 = .ok (.bipush 10, 2) := by decide +kernel
theorem dX8_count_8 : decode cX8_count 8 = .ok (.bipush 16, 2) := by decide +kernel
theorem dX8_count_10 : decode cX8_count 10 = .ok (.invokestatic 49, 3) := by decide +kernel
theorem dX8_count_13 : decode cX8_count 13 = .ok (.ifCond .eq 12, 3) := by decide +kernel
theorem dX8_count_16 : decode cX8_count 16 = .ok (.aload_n 0, 1) := by decide +kernel
theorem dX8_count_17 : decode cX8_count 17 = .ok (.iload_n 1, 1) := by decide +kernel
theorem dX8_count_18 : decode cX8_count 18 = .ok (.bipush 10, 2) := by decide +kernel
theorem dX8_count_20 : decode cX8_count 20 = .ok (.isub, 1) := by decide +kernel
theorem dX8_count_21 : decode cX8_count 21 = .ok (.invokevirtual 311, 3) := by decide +kernel
theorem dX8_count_24 : decode cX8_count 24 = .ok (.ireturn, 1) := by decide +kernel
theorem dX8_count_25 : decode cX8_count 25 = .ok (.iload_n 1, 1) := by decide +kernel
theorem dX8_count_26 : decode cX8_count 26 = .ok (.tableswitch 95 0 7 #[46, 53, 60, 67, 74, 80, 85, 90], 46) := by decide +kernel
theorem dX8_count_72 : decode cX8_count 72 = .ok (.aload_n 0, 1) := by decide +kernel
theorem dX8_count_73 : decode cX8_count 73 = .ok (.getfield 13, 3) := by decide +kernel
theorem dX8_count_76 : decode cX8_count 76 = .ok (.iconst 1, 1) := by decide +kernel
theorem dX8_count_77 : decode cX8_count 77 = .ok (.iaload, 1) := by decide +kernel
theorem dX8_count_78 : decode cX8_count 78 = .ok (.ireturn, 1) := by decide +kernel
theorem dX8_count_79 : decode cX8_count 79 = .ok (.aload_n 0, 1) := by decide +kernel
theorem dX8_count_80 : decode cX8_count 80 = .ok (.getfield 13, 3) := by decide +kernel
theorem dX8_count_83 : decode cX8_count 83 = .ok (.iconst 2, 1) := by decide +kernel
theorem dX8_count_84 : decode cX8_count 84 = .ok (.iaload, 1) := by decide +kernel
theorem dX8_count_85 : decode cX8_count 85 = .ok (.ireturn, 1) := by decide +kernel
theorem dX8_count_86 : decode cX8_count 86 = .ok (.aload_n 0, 1) := by decide +kernel
theorem dX8_count_87 : decode cX8_count 87 = .ok (.getfield 13, 3) := by decide +kernel
theorem dX8_count_90 : decode cX8_count 90 = .ok (.iconst 3, 1) := by decide +kernel
theorem dX8_count_91 : decode cX8_count 91 = .ok (.iaload, 1) := by decide +kernel
theorem dX8_count_92 : decode cX8_count 92 = .ok (.ireturn, 1) := by decide +kernel
theorem dX8_count_93 : decode cX8_count 93 = .ok (.aload_n 0, 1) := by decide +kernel
theorem dX8_count_94 : decode cX8_count 94 = .ok (.getfield 13, 3) := by decide +kernel
theorem dX8_count_97 : decode cX8_count 97 = .ok (.iconst 0, 1) := by decide +kernel
theorem dX8_count_98 : decode cX8_count 98 = .ok (.iaload, 1) := by decide +kernel
theorem dX8_count_99 : decode cX8_count 99 = .ok (.ireturn, 1) := by decide +kernel
theorem dX8_count_100 : decode cX8_count 100 = .ok (.aload_n 0, 1) := by decide +kernel
theorem dX8_count_101 : decode cX8_count 101 = .ok (.iconst (-1), 1) := by decide +kernel
theorem dX8_count_102 : decode cX8_count 102 = .ok (.invokevirtual 311, 3) := by decide +kernel
theorem dX8_count_105 : decode cX8_count 105 = .ok (.ireturn, 1) := by decide +kernel
theorem dX8_count_106 : decode cX8_count 106 = .ok (.aload_n 0, 1) := by decide +kernel
theorem dX8_count_107 : decode cX8_count 107 = .ok (.invokevirtual 314, 3) := by decide +kernel
theorem dX8_count_110 : decode cX8_count 110 = .ok (.ireturn, 1) := by decide +kernel
theorem dX8_count_111 : decode cX8_count 111 = .ok (.aload_n 0, 1) := by decide +kernel
theorem dX8_count_112 : decode cX8_count 112 = .ok (.getfield 39, 3) := by decide +kernel
theorem dX8_count_115 : decode cX8_count 115 = .ok (.ireturn, 1) := by decide +kernel
theorem dX8_count_116 : decode cX8_count 116 = .ok (.aload_n 0, 1) := by decide +kernel
theorem dX8_count_117 : decode cX8_count 117 = .ok (.getfield 160, 3) := by decide +kernel
theorem dX8_count_120 : decode cX8_count 120 = .ok (.ireturn, 1) := by decide +kernel
theorem dX8_count_121 : decode cX8_count 121 = .ok (.aload_n 0, 1) := by decide +kernel
theorem dX8_count_122 : decode cX8_count 122 = .ok (.iconst 1, 1) := by decide +kernel
theorem dX8_count_123 : decode cX8_count 123 = .ok (.invokevirtual 163, 3) := by decide +kernel
theorem dX8_count_126 : decode cX8_count 126 = .ok (.ireturn, 1) := by decide +kernel
theorem dX8_undo_0 : decode cX8_undo 0 = .ok (.aload_n 0, 1) := by decide +kernel
theorem dX8_undo_1 : decode cX8_undo 1 = .ok (.iconst 0, 1) := by decide +kernel
theorem dX8_undo_2 : decode cX8_undo 2 = .ok (.putfield 1, 3) := by decide +kernel
theorem dX8_undo_5 : decode cX8_undo 5 = .ok (.aload_n 0, 1) := by decide +kernel
theorem dX8_undo_6 : decode cX8_undo 6 = .ok (.getfield 39, 3) := by decide +kernel
theorem dX8_undo_9 : decode cX8_undo 9 = .ok (.ifCond .ne 9, 3) := by decide +kernel
theorem dX8_undo_12 : decode cX8_undo 12 = .ok (.aload_n 0, 1) := by decide +kernel
theorem dX8_undo_13 : decode cX8_undo 13 = .ok (.iconst 1, 1) := by decide +kernel
theorem dX8_undo_14 : decode cX8_undo 14 = .ok (.invokevirtual 163, 3) := by decide +kernel
theorem dX8_undo_17 : decode cX8_undo 17 = .ok (.ireturn, 1) := by decide +kernel
theorem dX8_undo_18 : decode cX8_undo 18 = .ok (.aload_n 0, 1) := by decide +kernel
theorem dX8_undo_19 : decode cX8_undo 19 = .ok (.dup, 1) := by decide +kernel
theorem dX8_undo_20 : decode cX8_undo 20 = .ok (.getfield 39, 3) := by decide +kernel
theorem dX8_undo_23 : decode cX8_undo 23 = .ok (.iconst 1, 1) := by decide +kernel
theorem dX8_undo_24 : decode cX8_undo 24 = .ok (.isub, 1) := by decide +kernel
theorem dX8_undo_25 : decode cX8_undo 25 = .ok (.putfield 39, 3) := by decide +kernel
theorem dX8_undo_28 : decode cX8_undo 28 = .ok (.iconst 0, 1) := by decide +kernel
theorem dX8_undo_29 : decode cX8_undo 29 = .ok (.istore_n 1, 1) := by decide +kernel
theorem dX8_undo_30 : decode cX8_undo 30 = .ok (.iload_n 1, 1) := by decide +kernel
theorem dX8_undo_31 : decode cX8_undo 31 = .ok (.sipush 668, 3) := by decide +kernel
theorem dX8_undo_34 : decode cX8_undo 34 = .ok (.if_icmp .ge 30, 3) := by decide +kernel
theorem dX8_undo_37 : decode cX8_undo 37 = .ok (.aload_n 0, 1) := by decide +kernel
theorem dX8_undo_38 : decode cX8_undo 38 = .ok (.getfield 13, 3) := by decide +kernel
theorem dX8_undo_41 : decode cX8_undo 41 = .ok (.iload_n 1, 1) := by decide +kernel
theorem dX8_undo_42 : decode cX8_undo 42 = .ok (.aload_n 0, 1) := by decide +kernel
theorem dX8_undo_43 : decode cX8_undo 43 = .ok (.getfield 17, 3) := by decide +kernel
theorem dX8_undo_46 : decode cX8_undo 46 = .ok (.sipush 668, 3) := by decide +kernel
theorem dX8_undo_49 : decode cX8_undo 49 = .ok (.aload_n 0, 1) := by decide +kernel
theorem dX8_undo_50 : decode cX8_undo 50 = .ok (.getfield 39, 3) := by decide +kernel
theorem dX8_undo_53 : decode cX8_undo 53 = .ok (.imul, 1) := by decide +kernel
theorem dX8_undo_54 : decode cX8_undo 54 = .ok (.iload_n 1, 1) := by decide +kernel
theorem dX8_undo_55 : decode cX8_undo 55 = .ok (.iadd, 1) := by decide +kernel
theorem dX8_undo_56 : decode cX8_undo 56 = .ok (.iaload, 1) := by decide +kernel
theorem dX8_undo_57 : decode cX8_undo 57 = .ok (.iastore, 1) := by decide +kernel
theorem dX8_undo_58 : decode cX8_undo 58 = .ok (.iinc 1 1, 3) := by decide +kernel
theorem dX8_undo_61 : decode cX8_undo 61 = .ok (.goto (-31), 3) := by decide +kernel
theorem dX8_undo_64 : decode cX8_undo 64 = .ok (.aload_n 0, 1) := by decide +kernel
theorem dX8_undo_65 : decode cX8_undo 65 = .ok (.getfield 39, 3) := by decide +kernel
theorem dX8_undo_68 : decode cX8_undo 68 = .ok (.ireturn, 1) := by decide +kernel
theorem dX8_save_0 : decode cX8_save 0 = .ok (.aload_n 0, 1) := by decide +kernel
theorem dX8_save_1 : decode cX8_save 1 = .ok (.iconst 0, 1) := by decide +kernel
theorem dX8_save_2 : decode cX8_save 2 = .ok (.putfield 1, 3) := by decide +kernel
theorem dX8_save_5 : decode cX8_save 5 = .ok (.aload_n 0, 1) := by decide +kernel
theorem dX8_save_6 : decode cX8_save 6 = .ok (.iconst 1, 1) := by decide +kernel
theorem dX8_save_7 : decode cX8_save 7 = .ok (.putfield 317, 3) := by decide +kernel
theorem dX8_save_10 : decode cX8_save 10 = .ok (.aload_n 0, 1) := by decide +kernel
theorem dX8_save_11 : decode cX8_save 11 = .ok (.getfield 13, 3) := by decide +kernel
theorem dX8_save_14 : decode cX8_save 14 = .ok (.aload_n 0, 1) := by decide +kernel
theorem dX8_save_15 : decode cX8_save 15 = .ok (.getfield 23, 3) := by decide +kernel
theorem dX8_save_18 : decode cX8_save 18 = .ok (.invokestatic 42, 3) := by decide +kernel
theorem dX8_save_21 : decode cX8_save 21 = .ok (.aload_n 0, 1) := by decide +kernel
theorem dX8_save_22 : decode cX8_save 22 = .ok (.getfield 13, 3) := by decide +kernel
theorem dX8_save_25 : decode cX8_save 25 = .ok (.iconst 2, 1) := by decide +kernel
theorem dX8_save_26 : decode cX8_save 26 = .ok (.iaload, 1) := by decide +kernel
theorem dX8_save_27 : decode cX8_save 27 = .ok (.ireturn, 1) := by decide +kernel
theorem dX8_restore_0 : decode cX8_restore 0 = .ok (.aload_n 0, 1) := by decide +kernel
theorem dX8_restore_1 : decode cX8_restore 1 = .ok (.iconst 0, 1) := by decide +kernel
theorem dX8_restore_2 : decode cX8_restore 2 = .ok (.putfield 1, 3) := by decide +kernel
theorem dX8_restore_5 : decode cX8_restore 5 = .ok (.aload_n 0, 1) := by decide +kernel
theorem dX8_restore_6 : decode cX8_restore 6 = .ok (.getfield 317, 3) := by decide +kernel
theorem dX8_restore_9 : decode cX8_restore 9 = .ok (.ifCond .ne 9, 3) := by decide +kernel
theorem dX8_restore_12 : decode cX8_restore 12 = .ok (.aload_n 0, 1) := by decide +kernel
theorem dX8_restore_13 : decode cX8_restore 13 = .ok (.iconst 1, 1) := by decide +kernel
theorem dX8_restore_14 : decode cX8_restore 14 = .ok (.invokevirtual 163, 3) := by decide +kernel
theorem dX8_restore_17 : decode cX8_restore 17 = .ok (.ireturn, 1) := by decide +kernel
theorem dX8_restore_18 : decode cX8_restore 18 = .ok (.aload_n 0, 1) := by decide +kernel
theorem dX8_restore_19 : decode cX8_restore 19 = .ok (.iconst 0, 1) := by decide +kernel
theorem dX8_restore_20 : decode cX8_restore 20 = .ok (.putfield 39, 3) := by decide +kernel
theorem dX8_restore_23 : decode cX8_restore 23 = .ok (.aload_n 0, 1) := by decide +kernel
theorem dX8_restore_24 : decode cX8_restore 24 = .ok (.getfield 23, 3) := by decide +kernel
theorem dX8_restore_27 : decode cX8_restore 27 = .ok (.aload_n 0, 1) := by decide +kernel
theorem dX8_restore_28 : decode cX8_restore 28 = .ok (.getfield 13, 3) := by decide +kernel
theorem dX8_restore_31 : decode cX8_restore 31 = .ok (.invokestatic 42, 3) := by decide +kernel
theorem dX8_restore_34 : decode cX8_restore 34 = .ok (.aload_n 0, 1) := by decide +kernel
theorem dX8_restore_35 : decode cX8_restore 35 = .ok (.getfield 13, 3) := by decide +kernel
theorem dX8_restore_38 : decode cX8_restore 38 = .ok (.iconst 2, 1) := by decide +kernel
theorem dX8_restore_39 : decode cX8_restore 39 = .ok (.iaload, 1) := by decide +kernel
theorem dX8_restore_40 : decode cX8_restore 40 = .ok (.ireturn, 1) := by decide +kernel
