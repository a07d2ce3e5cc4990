theorem dX9_init_0 : decode cX9_init 0 = .ok (.aload_n 0, 1) := by decide +kernel
theorem dX9_init_1 : decode cX9_init 1 = .ok (.invokespecial 1, 3) := by decide +kernel
theorem dX9_init_4 : decode cX9_init 4 = .ok (.aload_n 0, 1) := by decide +kernel
theorem dX9_init_5 : decode cX9_init 5 = .ok (.sipush 480, 3) := by decide +kernel
theorem dX9_init_8 : decode cX9_init 8 = .ok (.newarray .int, 2) := by decide +kernel
theorem dX9_init_10 : decode cX9_init 10 = .ok (.putfield 7, 3) := by decide +kernel
theorem dX9_init_13 : decode cX9_init 13 = .ok (.aload_n 0, 1) := by decide +kernel
theorem dX9_init_14 : decode cX9_init 14 = .ok (.sipush 250, 3) := by decide +kernel
theorem dX9_init_17 : decode cX9_init 17 = .ok (.newarray .int, 2) := by decide +kernel
theorem dX9_init_19 : decode cX9_init 19 = .ok (.putfield 13, 3) := by decide +kernel
theorem dX9_init_22 : decode cX9_init 22 = .ok (.aload_n 0, 1) := by decide +kernel
theorem dX9_init_23 : decode cX9_init 23 = .ok (.sipush 250, 3) := by decide +kernel
theorem dX9_init_26 : decode cX9_init 26 = .ok (.newarray .int, 2) := by decide +kernel
theorem dX9_init_28 : decode cX9_init 28 = .ok (.putfield 16, 3) := by decide +kernel
theorem dX9_init_31 : decode cX9_init 31 = .ok (.aload_n 0, 1) := by decide +kernel
theorem dX9_init_32 : decode cX9_init 32 = .ok (.sipush 250, 3) := by decide +kernel
theorem dX9_init_35 : decode cX9_init 35 = .ok (.newarray .int, 2) := by decide +kernel
theorem dX9_init_37 : decode cX9_init 37 = .ok (.putfield 19, 3) := by decide +kernel
theorem dX9_init_40 : decode cX9_init 40 = .ok (.aload_n 0, 1) := by decide +kernel
theorem dX9_init_41 : decode cX9_init 41 = .ok (.sipush 260, 3) := by decide +kernel
theorem dX9_init_44 : decode cX9_init 44 = .ok (.newarray .int, 2) := by decide +kernel
theorem dX9_init_46 : decode cX9_init 46 = .ok (.putfield 22, 3) := by decide +kernel
theorem dX9_init_49 : decode cX9_init 49 = .ok (.aload_n 0, 1) := by decide +kernel
theorem dX9_init_50 : decode cX9_init 50 = .ok (.sipush 260, 3) := by decide +kernel
theorem dX9_init_53 : decode cX9_init 53 = .ok (.newarray .int, 2) := by decide +kernel
theorem dX9_init_55 : decode cX9_init 55 = .ok (.putfield 25, 3) := by decide +kernel
theorem dX9_init_58 : decode cX9_init 58 = .ok (.aload_n 0, 1) := by decide +kernel
theorem dX9_init_59 : decode cX9_init 59 = .ok (.sipush 260, 3) := by decide +kernel
theorem dX9_init_62 : decode cX9_init 62 = .ok (.newarray .int, 2) := by decide +kernel
theorem dX9_init_64 : decode cX9_init 64 = .ok (.putfield 28, 3) := by decide +kernel
theorem dX9_init_67 : decode cX9_init 67 = .ok (.aload_n 0, 1) := by decide +kernel
theorem dX9_init_68 : decode cX9_init 68 = .ok (.sipush 260, 3) := by decide +kernel
theorem dX9_init_71 : decode cX9_init 71 = .ok (.newarray .int, 2) := by decide +kernel
theorem dX9_init_73 : decode cX9_init 73 = .ok (.putfield 31, 3) := by decide +kernel
theorem dX9_init_76 : decode cX9_init 76 = .ok (.aload_n 0, 1) := by decide +kernel
theorem dX9_init_77 : decode cX9_init 77 = .ok (.sipush 260, 3) := by decide +kernel
theorem dX9_init_80 : decode cX9_init 80 = .ok (.newarray .int, 2) := by decide +kernel
theorem dX9_init_82 : decode cX9_init 82 = .ok (.putfield 34, 3) := by decide +kernel
theorem dX9_init_85 : decode cX9_init 85 = .ok (.aload_n 0, 1) := by decide +kernel
theorem dX9_init_86 : decode cX9_init 86 = .ok (.sipush 480, 3) := by decide +kernel
theorem dX9_init_89 : decode cX9_init 89 = .ok (.newarray .int, 2) := by decide +kernel
theorem dX9_init_91 : decode cX9_init 91 = .ok (.putfield 37, 3) := by decide +kernel
theorem dX9_init_94 : decode cX9_init 94 = .ok (.aload_n 0, 1) := by decide +kernel
theorem dX9_init_95 : decode cX9_init 95 = .ok (.bipush 100, 2) := by decide +kernel
theorem dX9_init_97 : decode cX9_init 97 = .ok (.newarray .boolean, 2) := by decide +kernel
theorem dX9_init_99 : decode cX9_init 99 = .ok (.putfield 40, 3) := by decide +kernel
theorem dX9_init_102 : decode cX9_init 102 = .ok (.aload_n 0, 1) := by decide +kernel
theorem dX9_init_103 : decode cX9_init 103 = .ok (.bipush 16, 2) := by decide +kernel
theorem dX9_init_105 : decode cX9_init 105 = .ok (.newarray .int, 2) := by decide +kernel
theorem dX9_init_107 : decode cX9_init 107 = .ok (.putfield 44, 3) := by decide +kernel
theorem dX9_init_110 : decode cX9_init 110 = .ok (.aload_n 0, 1) := by decide +kernel
theorem dX9_init_111 : decode cX9_init 111 = .ok (.bipush 96, 2) := by decide +kernel
theorem dX9_init_113 : decode cX9_init 113 = .ok (.newarray .int, 2) := by decide +kernel
theorem dX9_init_115 : decode cX9_init 115 = .ok (.putfield 47, 3) := by decide +kernel
theorem dX9_init_118 : decode cX9_init 118 = .ok (.aload_n 0, 1) := by decide +kernel
theorem dX9_init_119 : decode cX9_init 119 = .ok (.bipush 96, 2) := by decide +kernel
theorem dX9_init_121 : decode cX9_init 121 = .ok (.newarray .int, 2) := by decide +kernel
theorem dX9_init_123 : decode cX9_init 123 = .ok (.putfield 50, 3) := by decide +kernel
theorem dX9_init_126 : decode cX9_init 126 = .ok (.aload_n 0, 1) := by decide +kernel
theorem dX9_init_127 : decode cX9_init 127 = .ok (.bipush 96, 2) := by decide +kernel
theorem dX9_init_129 : decode cX9_init 129 = .ok (.newarray .int, 2) := by decide +kernel
theorem dX9_init_131 : decode cX9_init 131 = .ok (.putfield 53, 3) := by decide +kernel
theorem dX9_init_134 : decode cX9_init 134 = .ok (.aload_n 0, 1) := by decide +kernel
theorem dX9_init_135 : decode cX9_init 135 = .ok (.sipush 288, 3) := by decide +kernel
theorem dX9_init_138 : decode cX9_init 138 = .ok (.newarray .int, 2) := by decide +kernel
theorem dX9_init_140 : decode cX9_init 140 = .ok (.putfield 56, 3) := by decide +kernel
theorem dX9_init_143 : decode cX9_init 143 = .ok (.aload_n 0, 1) := by decide +kernel
theorem dX9_init_144 : decode cX9_init 144 = .ok (.bipush 16, 2) := by decide +kernel
theorem dX9_init_146 : decode cX9_init 146 = .ok (.newarray .int, 2) := by decide +kernel
theorem dX9_init_148 : decode cX9_init 148 = .ok (.putfield 59, 3) := by decide +kernel
theorem dX9_init_151 : decode cX9_init 151 = .ok (.aload_n 0, 1) := by decide +kernel
theorem dX9_init_152 : decode cX9_init 152 = .ok (.bipush 10, 2) := by decide +kernel
theorem dX9_init_154 : decode cX9_init 154 = .ok (.newarray .int, 2) := by decide +kernel
theorem dX9_init_156 : decode cX9_init 156 = .ok (.putfield 62, 3) := by decide +kernel
theorem dX9_init_159 : decode cX9_init 159 = .ok (.aload_n 0, 1) := by decide +kernel
theorem dX9_init_160 : decode cX9_init 160 = .ok (.bipush 10, 2) := by decide +kernel
theorem dX9_init_162 : decode cX9_init 162 = .ok (.newarray .int, 2) := by decide +kernel
theorem dX9_init_164 : decode cX9_init 164 = .ok (.putfield 65, 3) := by decide +kernel
theorem dX9_init_167 : decode cX9_init 167 = .ok (.aload_n 0, 1) := by decide +kernel
theorem dX9_init_168 : decode cX9_init 168 = .ok (.bipush 10, 2) := by decide +kernel
theorem dX9_init_170 : decode cX9_init 170 = .ok (.newarray .int, 2) := by decide +kernel
theorem dX9_init_172 : decode cX9_init 172 = .ok (.putfield 68, 3) := by decide +kernel
theorem dX9_init_175 : decode cX9_init 175 = .ok (.aload_n 0, 1) := by decide +kernel
theorem dX9_init_176 : decode cX9_init 176 = .ok (.sipush 17280, 3) := by decide +kernel
theorem dX9_init_179 : decode cX9_init 179 = .ok (.newarray .boolean, 2) := by decide +kernel
theorem dX9_init_181 : decode cX9_init 181 = .ok (.putfield 71, 3) := by decide +kernel
theorem dX9_init_184 : decode cX9_init 184 = .ok (.aload_n 0, 1) := by decide +kernel
theorem dX9_init_185 : decode cX9_init 185 = .ok (.sipush 17280, 3) := by decide +kernel
theorem dX9_init_188 : decode cX9_init 188 = .ok (.newarray .boolean, 2) := by decide +kernel
theorem dX9_init_190 : decode cX9_init 190 = .ok (.putfield 74, 3) := by decide +kernel
theorem dX9_init_193 : decode cX9_init 193 = .ok (.aload_n 0, 1) := by decide +kernel
theorem dX9_init_194 : decode cX9_init 194 = .ok (.sipush 17280, 3) := by decide +kernel
theorem dX9_init_197 : decode cX9_init 197 = .ok (.newarray .boolean, 2) := by decide +kernel
theorem dX9_init_199 : decode cX9_init 199 = .ok (.putfield 77, 3) := by decide +kernel
theorem dX9_init_202 : decode cX9_init 202 = .ok (.aload_n 0, 1) := by decide +kernel
theorem dX9_init_203 : decode cX9_init 203 = .ok (.bipush 64, 2) := by decide +kernel
theorem dX9_init_205 : decode cX9_init 205 = .ok (.newarray .int, 2) := by decide +kernel
theorem dX9_init_207 : decode cX9_init 207 = .ok (.putfield 80, 3) := by decide +kernel
theorem dX9_init_210 : decode cX9_init 210 = .ok (.aload_n 0, 1) := by decide +kernel
theorem dX9_init_211 : decode cX9_init 211 = .ok (.bipush 96, 2) := by decide +kernel
theorem dX9_init_213 : decode cX9_init 213 = .ok (.newarray .int, 2) := by decide +kernel
theorem dX9_init_215 : decode cX9_init 215 = .ok (.putfield 83, 3) := by decide +kernel
theorem dX9_init_218 : decode cX9_init 218 = .ok (.aload_n 0, 1) := by decide +kernel
theorem dX9_init_219 : decode cX9_init 219 = .ok (.bipush 6, 2) := by decide +kernel
theorem dX9_init_221 : decode cX9_init 221 = .ok (.newarray .int, 2) := by decide +kernel
theorem dX9_init_223 : decode cX9_init 223 = .ok (.putfield 86, 3) := by decide +kernel
theorem dX9_init_226 : decode cX9_init 226 = .ok (.return_, 1) := by decide +kernel
theorem dX9_thrown_0 : decode cX9_thrown 0 = .ok (.aload_n 0, 1) := by decide +kernel
theorem dX9_thrown_1 : decode cX9_thrown 1 = .ok (.getfield 89, 3) := by decide +kernel
theorem dX9_thrown_4 : decode cX9_thrown 4 = .ok (.ireturn, 1) := by decide +kernel
theorem dX9_raise_0 : decode cX9_raise 0 = .ok (.aload_n 0, 1) := by decide +kernel
theorem dX9_raise_1 : decode cX9_raise 1 = .ok (.iload_n 1, 1) := by decide +kernel
theorem dX9_raise_2 : decode cX9_raise 2 = .ok (.putfield 89, 3) := by decide +kernel
theorem dX9_raise_5 : decode cX9_raise 5 = .ok (.iconst 0, 1) := by decide +kernel
theorem dX9_raise_6 : decode cX9_raise 6 = .ok (.ireturn, 1) := by decide +kernel
theorem dX9_type_0 : decode cX9_type 0 = .ok (.aload_n 0, 1) := by decide +kernel
theorem dX9_type_1 : decode cX9_type 1 = .ok (.iconst 0, 1) := by decide +kernel
theorem dX9_type_2 : decode cX9_type 2 = .ok (.putfield 89, 3) := by decide +kernel
theorem dX9_type_5 : decode cX9_type 5 = .ok (.iload_n 3, 1) := by decide +kernel
theorem dX9_type_6 : decode cX9_type 6 = .ok (.iconst 1, 1) := by decide +kernel
theorem dX9_type_7 : decode cX9_type 7 = .ok (.if_icmp .lt 21, 3) := by decide +kernel
theorem dX9_type_10 : decode cX9_type 10 = .ok (.iload_n 3, 1) := by decide +kernel
theorem dX9_type_11 : decode cX9_type 11 = .ok (.bipush 8, 2) := by decide +kernel
theorem dX9_type_13 : decode cX9_type 13 = .ok (.if_icmp .gt 15, 3) := by decide +kernel
theorem dX9_type_16 : decode cX9_type 16 = .ok (.aload_n 0, 1) := by decide +kernel
theorem dX9_type_17 : decode cX9_type 17 = .ok (.getfield 93, 3) := by decide +kernel
theorem dX9_type_20 : decode cX9_type 20 = .ok (.iload_n 3, 1) := by decide +kernel
theorem dX9_type_21 : decode cX9_type 21 = .ok (.iadd, 1) := by decide +kernel
theorem dX9_type_22 : decode cX9_type 22 = .ok (.sipush 480, 3) := by decide +kernel
theorem dX9_type_25 : decode cX9_type 25 = .ok (.if_icmp .le 5, 3) := by decide +kernel
theorem dX9_type_28 : decode cX9_type 28 = .ok (.iconst 0, 1) := by decide +kernel
theorem dX9_type_29 : decode cX9_type 29 = .ok (.ireturn, 1) := by decide +kernel
theorem dX9_type_30 : decode cX9_type 30 = .ok (.iconst 0, 1) := by decide +kernel
theorem dX9_type_31 : decode cX9_type 31 = .ok (.istore 4, 2) := by decide +kernel
theorem dX9_type_33 : decode cX9_type 33 = .ok (.iload 4, 2) := by decide +kernel
theorem dX9_type_35 : decode cX9_type 35 = .ok (.iload_n 3, 1) := by decide +kernel
theorem dX9_type_36 : decode cX9_type 36 = .ok (.if_icmp .ge 39, 3) := by decide +kernel
theorem dX9_type_39 : decode cX9_type 39 = .ok (.lload_n 1, 1) := by decide +kernel
theorem dX9_type_40 : decode cX9_type 40 = .ok (.bipush 8, 2) := by decide +kernel
theorem dX9_type_42 : decode cX9_type 42 = .ok (.iload 4, 2) := by decide +kernel
theorem dX9_type_44 : decode cX9_type 44 = .ok (.imul, 1) := by decide +kernel
theorem dX9_type_45 : decode cX9_type 45 = .ok (.lshr, 1) := by decide +kernel
theorem dX9_type_46 : decode cX9_type 46 = .ok (.ldc2_w 96, 3) := by decide +kernel
theorem dX9_type_49 : decode cX9_type 49 = .ok (.land, 1) := by decide +kernel
theorem dX9_type_50 : decode cX9_type 50 = .ok (.l2i, 1) := by decide +kernel
theorem dX9_type_51 : decode cX9_type 51 = .ok (.istore 5, 2) := by decide +kernel
theorem dX9_type_53 : decode cX9_type 53 = .ok (.iload 5, 2) := by decide +kernel
theorem dX9_type_55 : decode cX9_type 55 = .ok (.bipush 32, 2) := by decide +kernel
theorem dX9_type_57 : decode cX9_type 57 = .ok (.if_icmp .lt 10, 3) := by decide +kernel
theorem dX9_type_60 : decode cX9_type 60 = .ok (.iload 5, 2) := by decide +kernel
theorem dX9_type_62 : decode cX9_type 62 = .ok (.bipush 126, 2) := by decide +kernel
theorem dX9_type_64 : decode cX9_type 64 = .ok (.if_icmp .le 5, 3) := by decide +kernel
theorem dX9_type_67 : decode cX9_type 67 = .ok (.iconst 0, 1) := by decide +kernel
theorem dX9_type_68 : decode cX9_type 68 = .ok (.ireturn, 1) := by decide +kernel
theorem dX9_type_69 : decode cX9_type 69 = .ok (.iinc 4 1, 3) := by decide +kernel
theorem dX9_type_72 : decode cX9_type 72 = .ok (.goto (-39), 3) := by decide +kernel
theorem dX9_type_75 : decode cX9_type 75 = .ok (.iload_n 3, 1) := by decide +kernel
theorem dX9_type_76 : decode cX9_type 76 = .ok (.iconst 1, 1) := by decide +kernel
theorem dX9_type_77 : decode cX9_type 77 = .ok (.isub, 1) := by decide +kernel
theorem dX9_type_78 : decode cX9_type 78 = .ok (.istore 4, 2) := by decide +kernel
theorem dX9_type_80 : decode cX9_type 80 = .ok (.iload 4, 2) := by decide +kernel
theorem dX9_type_82 : decode cX9_type 82 = .ok (.ifCond .lt 40, 3) := by decide +kernel
theorem dX9_type_85 : decode cX9_type 85 = .ok (.aload_n 0, 1) := by decide +kernel
theorem dX9_type_86 : decode cX9_type 86 = .ok (.getfield 7, 3) := by decide +kernel
theorem dX9_type_89 : decode cX9_type 89 = .ok (.aload_n 0, 1) := by decide +kernel
theorem dX9_type_90 : decode cX9_type 90 = .ok (.getfield 93, 3) := by decide +kernel
theorem dX9_type_93 : decode cX9_type 93 = .ok (.lload_n 1, 1) := by decide +kernel
theorem dX9_type_94 : decode cX9_type 94 = .ok (.bipush 8, 2) := by decide +kernel
theorem dX9_type_96 : decode cX9_type 96 = .ok (.iload 4, 2) := by decide +kernel
theorem dX9_type_98 : decode cX9_type 98 = .ok (.imul, 1) := by decide +kernel
theorem dX9_type_99 : decode cX9_type 99 = .ok (.lshr, 1) := by decide +kernel
theorem dX9_type_100 : decode cX9_type 100 = .ok (.ldc2_w 96, 3) := by decide +kernel
theorem dX9_type_103 : decode cX9_type 103 = .ok (.land, 1) := by decide +kernel
theorem dX9_type_104 : decode cX9_type 104 = .ok (.l2i, 1) := by decide +kernel
theorem dX9_type_105 : decode cX9_type 105 = .ok (.iastore, 1) := by decide +kernel
theorem dX9_type_106 : decode cX9_type 106 = .ok (.aload_n 0, 1) := by decide +kernel
theorem dX9_type_107 : decode cX9_type 107 = .ok (.dup, 1) := by decide +kernel
theorem dX9_type_108 : decode cX9_type 108 = .ok (.getfield 93, 3) := by decide +kernel
theorem dX9_type_111 : decode cX9_type 111 = .ok (.iconst 1, 1) := by decide +kernel
theorem dX9_type_112 : decode cX9_type 112 = .ok (.iadd, 1) := by decide +kernel
theorem dX9_type_113 : decode cX9_type 113 = .ok (.putfield 93, 3) := by decide +kernel
theorem dX9_type_116 : decode cX9_type 116 = .ok (.iinc 4 (-1), 3) := by decide +kernel
theorem dX9_type_119 : decode cX9_type 119 = .ok (.goto (-39), 3) := by decide +kernel
theorem dX9_type_122 : decode cX9_type 122 = .ok (.iconst 1, 1) := by decide +kernel
theorem dX9_type_123 : decode cX9_type 123 = .ok (.ireturn, 1) := by decide +kernel
theorem dX9_here_0 : decode cX9_here 0 = .ok (.aload_n 0, 1) := by decide +kernel
theorem dX9_here_1 : decode cX9_here 1 = .ok (.getfield 98, 3) := by decide +kernel
theorem dX9_here_4 : decode cX9_here 4 = .ok (.aload_n 0, 1) := by decide +kernel
theorem dX9_here_5 : decode cX9_here 5 = .ok (.getfield 93, 3) := by decide +kernel
theorem dX9_here_8 : decode cX9_here 8 = .ok (.if_icmp .ge 15, 3) := by decide +kernel
theorem dX9_here_11 : decode cX9_here 11 = .ok (.aload_n 0, 1) := by decide +kernel
theorem dX9_here_12 : decode cX9_here 12 = .ok (.getfield 7, 3) := by decide +kernel
theorem dX9_here_15 : decode cX9_here 15 = .ok (.aload_n 0, 1) := by decide +kernel
theorem dX9_here_16 : decode cX9_here 16 = .ok (.getfield 98, 3) := by decide +kernel
theorem dX9_here_19 : decode cX9_here 19 = .ok (.iaload, 1) := by decide +kernel
theorem dX9_here_20 : decode cX9_here 20 = .ok (.goto 4, 3) := by decide +kernel
theorem dX9_here_23 : decode cX9_here 23 = .ok (.iconst 0, 1) := by decide +kernel
theorem dX9_here_24 : decode cX9_here 24 = .ok (.ireturn, 1) := by decide +kernel
theorem dX9_skip_0 : decode cX9_skip 0 = .ok (.aload_n 0, 1) := by decide +kernel
theorem dX9_skip_1 : decode cX9_skip 1 = .ok (.getfield 98, 3) := by decide +kernel
theorem dX9_skip_4 : decode cX9_skip 4 = .ok (.aload_n 0, 1) := by decide +kernel
theorem dX9_skip_5 : decode cX9_skip 5 = .ok (.getfield 93, 3) := by decide +kernel
theorem dX9_skip_8 : decode cX9_skip 8 = .ok (.if_icmp .ge 30, 3) := by decide +kernel
theorem dX9_skip_11 : decode cX9_skip 11 = .ok (.aload_n 0, 1) := by decide +kernel
theorem dX9_skip_12 : decode cX9_skip 12 = .ok (.getfield 7, 3) := by decide +kernel
theorem dX9_skip_15 : decode cX9_skip 15 = .ok (.aload_n 0, 1) := by decide +kernel
theorem dX9_skip_16 : decode cX9_skip 16 = .ok (.getfield 98, 3) := by decide +kernel
theorem dX9_skip_19 : decode cX9_skip 19 = .ok (.iaload, 1) := by decide +kernel
theorem dX9_skip_20 : decode cX9_skip 20 = .ok (.bipush 32, 2) := by decide +kernel
theorem dX9_skip_22 : decode cX9_skip 22 = .ok (.if_icmp .ne 16, 3) := by decide +kernel
theorem dX9_skip_25 : decode cX9_skip 25 = .ok (.aload_n 0, 1) := by decide +kernel
theorem dX9_skip_26 : decode cX9_skip 26 = .ok (.dup, 1) := by decide +kernel
theorem dX9_skip_27 : decode cX9_skip 27 = .ok (.getfield 98, 3) := by decide +kernel
theorem dX9_skip_30 : decode cX9_skip 30 = .ok (.iconst 1, 1) := by decide +kernel
theorem dX9_skip_31 : decode cX9_skip 31 = .ok (.iadd, 1) := by decide +kernel
theorem dX9_skip_32 : decode cX9_skip 32 = .ok (.putfield 98, 3) := by decide +kernel
theorem dX9_skip_35 : decode cX9_skip 35 = .ok (.goto (-35), 3) := by decide +kernel
theorem dX9_skip_38 : decode cX9_skip 38 = .ok (.return_, 1) := by decide +kernel
theorem dX9_next_0 : decode cX9_next 0 = .ok (.aload_n 0, 1) := by decide +kernel
theorem dX9_next_1 : decode cX9_next 1 = .ok (.dup, 1) := by decide +kernel
theorem dX9_next_2 : decode cX9_next 2 = .ok (.getfield 98, 3) := by decide +kernel
theorem dX9_next_5 : decode cX9_next 5 = .ok (.iconst 1, 1) := by decide +kernel
theorem dX9_next_6 : decode cX9_next 6 = .ok (.iadd, 1) := by decide +kernel
theorem dX9_next_7 : decode cX9_next 7 = .ok (.putfield 98, 3) := by decide +kernel
theorem dX9_next_10 : decode cX9_next 10 = .ok (.aload_n 0, 1) := by decide +kernel
theorem dX9_next_11 : decode cX9_next 11 = .ok (.invokevirtual 101, 3) := by decide +kernel
theorem dX9_next_14 : decode cX9_next 14 = .ok (.return_, 1) := by decide +kernel
theorem dX9_wrong_0 : decode cX9_wrong 0 = .ok (.aload_n 0, 1) := by decide +kernel
theorem dX9_wrong_1 : decode cX9_wrong 1 = .ok (.iload_n 1, 1) := by decide +kernel
theorem dX9_wrong_2 : decode cX9_wrong 2 = .ok (.putfield 104, 3) := by decide +kernel
theorem dX9_wrong_5 : decode cX9_wrong 5 = .ok (.aload_n 0, 1) := by decide +kernel
theorem dX9_wrong_6 : decode cX9_wrong 6 = .ok (.iload_n 2, 1) := by decide +kernel
theorem dX9_wrong_7 : decode cX9_wrong 7 = .ok (.putfield 107, 3) := by decide +kernel
theorem dX9_wrong_10 : decode cX9_wrong 10 = .ok (.iconst 0, 1) := by decide +kernel
theorem dX9_wrong_11 : decode cX9_wrong 11 = .ok (.ireturn, 1) := by decide +kernel
theorem dX9_isPredicate_0 : decode cX9_isPredicate 0 = .ok (.iload_n 0, 1) := by decide +kernel
theorem dX9_isPredicate_1 : decode cX9_isPredicate 1 = .ok (.bipush 97, 2) := by decide +kernel
theorem dX9_isPredicate_3 : decode cX9_isPredicate 3 = .ok (.if_icmp .lt 13, 3) := by decide +kernel
theorem dX9_isPredicate_6 : decode cX9_isPredicate 6 = .ok (.iload_n 0, 1) := by decide +kernel
theorem dX9_isPredicate_7 : decode cX9_isPredicate 7 = .ok (.bipush 106, 2) := by decide +kernel
theorem dX9_isPredicate_9 : decode cX9_isPredicate 9 = .ok (.if_icmp .gt 7, 3) := by decide +kernel
theorem dX9_isPredicate_12 : decode cX9_isPredicate 12 = .ok (.iconst 1, 1) := by decide +kernel
theorem dX9_isPredicate_13 : decode cX9_isPredicate 13 = .ok (.goto 4, 3) := by decide +kernel
theorem dX9_isPredicate_16 : decode cX9_isPredicate 16 = .ok (.iconst 0, 1) := by decide +kernel
theorem dX9_isPredicate_17 : decode cX9_isPredicate 17 = .ok (.ireturn, 1) := by decide +kernel
theorem dX9_isVariable_0 : decode cX9_isVariable 0 = .ok (.iload_n 0, 1) := by decide +kernel
theorem dX9_isVariable_1 : decode cX9_isVariable 1 = .ok (.bipush 65, 2) := by decide +kernel
theorem dX9_isVariable_3 : decode cX9_isVariable 3 = .ok (.if_icmp .lt 13, 3) := by decide +kernel
theorem dX9_isVariable_6 : decode cX9_isVariable 6 = .ok (.iload_n 0, 1) := by decide +kernel
theorem dX9_isVariable_7 : decode cX9_isVariable 7 = .ok (.bipush 90, 2) := by decide +kernel
theorem dX9_isVariable_9 : decode cX9_isVariable 9 = .ok (.if_icmp .gt 7, 3) := by decide +kernel
theorem dX9_isVariable_12 : decode cX9_isVariable 12 = .ok (.iconst 1, 1) := by decide +kernel
theorem dX9_isVariable_13 : decode cX9_isVariable 13 = .ok (.goto 4, 3) := by decide +kernel
theorem dX9_isVariable_16 : decode cX9_isVariable 16 = .ok (.iconst 0, 1) := by decide +kernel
theorem dX9_isVariable_17 : decode cX9_isVariable 17 = .ok (.ireturn, 1) := by decide +kernel
theorem dX9_isDigit_0 : decode cX9_isDigit 0 = .ok (.iload_n 0, 1) := by decide +kernel
theorem dX9_isDigit_1 : decode cX9_isDigit 1 = .ok (.bipush 48, 2) := by decide +kernel
theorem dX9_isDigit_3 : decode cX9_isDigit 3 = .ok (.if_icmp .lt 13, 3) := by decide +kernel
theorem dX9_isDigit_6 : decode cX9_isDigit 6 = .ok (.iload_n 0, 1) := by decide +kernel
theorem dX9_isDigit_7 : decode cX9_isDigit 7 = .ok (.bipush 57, 2) := by decide +kernel
theorem dX9_isDigit_9 : decode cX9_isDigit 9 = .ok (.if_icmp .gt 7, 3) := by decide +kernel
theorem dX9_isDigit_12 : decode cX9_isDigit 12 = .ok (.iconst 1, 1) := by decide +kernel
theorem dX9_isDigit_13 : decode cX9_isDigit 13 = .ok (.goto 4, 3) := by decide +kernel
theorem dX9_isDigit_16 : decode cX9_isDigit 16 = .ok (.iconst 0, 1) := by decide +kernel
theorem dX9_isDigit_17 : decode cX9_isDigit 17 = .ok (.ireturn, 1) := by decide +kernel
theorem dX9_term_0 : decode cX9_term 0 = .ok (.aload_n 0, 1) := by decide +kernel
theorem dX9_term_1 : decode cX9_term 1 = .ok (.invokevirtual 110, 3) := by decide +kernel
theorem dX9_term_4 : decode cX9_term 4 = .ok (.istore_n 1, 1) := by decide +kernel
theorem dX9_term_5 : decode cX9_term 5 = .ok (.iload_n 1, 1) := by decide +kernel
theorem dX9_term_6 : decode cX9_term 6 = .ok (.invokestatic 114, 3) := by decide +kernel
theorem dX9_term_9 : decode cX9_term 9 = .ok (.ifCond .eq 35, 3) := by decide +kernel
theorem dX9_term_12 : decode cX9_term 12 = .ok (.aload_n 0, 1) := by decide +kernel
theorem dX9_term_13 : decode cX9_term 13 = .ok (.getfield 37, 3) := by decide +kernel
theorem dX9_term_16 : decode cX9_term 16 = .ok (.aload_n 0, 1) := by decide +kernel
theorem dX9_term_17 : decode cX9_term 17 = .ok (.getfield 118, 3) := by decide +kernel
theorem dX9_term_20 : decode cX9_term 20 = .ok (.bipush 100, 2) := by decide +kernel
theorem dX9_term_22 : decode cX9_term 22 = .ok (.iload_n 1, 1) := by decide +kernel
theorem dX9_term_23 : decode cX9_term 23 = .ok (.iadd, 1) := by decide +kernel
theorem dX9_term_24 : decode cX9_term 24 = .ok (.bipush 65, 2) := by decide +kernel
theorem dX9_term_26 : decode cX9_term 26 = .ok (.isub, 1) := by decide +kernel
theorem dX9_term_27 : decode cX9_term 27 = .ok (.iastore, 1) := by decide +kernel
theorem dX9_term_28 : decode cX9_term 28 = .ok (.aload_n 0, 1) := by decide +kernel
theorem dX9_term_29 : decode cX9_term 29 = .ok (.dup, 1) := by decide +kernel
theorem dX9_term_30 : decode cX9_term 30 = .ok (.getfield 118, 3) := by decide +kernel
theorem dX9_term_33 : decode cX9_term 33 = .ok (.iconst 1, 1) := by decide +kernel
theorem dX9_term_34 : decode cX9_term 34 = .ok (.iadd, 1) := by decide +kernel
theorem dX9_term_35 : decode cX9_term 35 = .ok (.putfield 118, 3) := by decide +kernel
theorem dX9_term_38 : decode cX9_term 38 = .ok (.aload_n 0, 1) := by decide +kernel
theorem dX9_term_39 : decode cX9_term 39 = .ok (.invokevirtual 121, 3) := by decide +kernel
theorem dX9_term_42 : decode cX9_term 42 = .ok (.iconst 1, 1) := by decide +kernel
theorem dX9_term_43 : decode cX9_term 43 = .ok (.ireturn, 1) := by decide +kernel
theorem dX9_term_44 : decode cX9_term 44 = .ok (.iload_n 1, 1) := by decide +kernel
theorem dX9_term_45 : decode cX9_term 45 = .ok (.invokestatic 124, 3) := by decide +kernel
theorem dX9_term_48 : decode cX9_term 48 = .ok (.ifCond .ne 13, 3) := by decide +kernel
theorem dX9_term_51 : decode cX9_term 51 = .ok (.aload_n 0, 1) := by decide +kernel
theorem dX9_term_52 : decode cX9_term 52 = .ok (.iconst 1, 1) := by decide +kernel
theorem dX9_term_53 : decode cX9_term 53 = .ok (.aload_n 0, 1) := by decide +kernel
theorem dX9_term_54 : decode cX9_term 54 = .ok (.getfield 98, 3) := by decide +kernel
theorem dX9_term_57 : decode cX9_term 57 = .ok (.invokevirtual 127, 3) := by decide +kernel
theorem dX9_term_60 : decode cX9_term 60 = .ok (.ireturn, 1) := by decide +kernel
theorem dX9_term_61 : decode cX9_term 61 = .ok (.aload_n 0, 1) := by decide +kernel
theorem dX9_term_62 : decode cX9_term 62 = .ok (.getfield 98, 3) := by decide +kernel
theorem dX9_term_65 : decode cX9_term 65 = .ok (.istore_n 2, 1) := by decide +kernel
theorem dX9_term_66 : decode cX9_term 66 = .ok (.iconst 0, 1) := by decide +kernel
theorem dX9_term_67 : decode cX9_term 67 = .ok (.istore_n 3, 1) := by decide +kernel
theorem dX9_term_68 : decode cX9_term 68 = .ok (.aload_n 0, 1) := by decide +kernel
theorem dX9_term_69 : decode cX9_term 69 = .ok (.getfield 98, 3) := by decide +kernel
theorem dX9_term_72 : decode cX9_term 72 = .ok (.aload_n 0, 1) := by decide +kernel
theorem dX9_term_73 : decode cX9_term 73 = .ok (.getfield 93, 3) := by decide +kernel
theorem dX9_term_76 : decode cX9_term 76 = .ok (.if_icmp .ge 59, 3) := by decide +kernel
theorem dX9_term_79 : decode cX9_term 79 = .ok (.aload_n 0, 1) := by decide +kernel
theorem dX9_term_80 : decode cX9_term 80 = .ok (.getfield 7, 3) := by decide +kernel
theorem dX9_term_83 : decode cX9_term 83 = .ok (.aload_n 0, 1) := by decide +kernel
theorem dX9_term_84 : decode cX9_term 84 = .ok (.getfield 98, 3) := by decide +kernel
theorem dX9_term_87 : decode cX9_term 87 = .ok (.iaload, 1) := by decide +kernel
theorem dX9_term_88 : decode cX9_term 88 = .ok (.invokestatic 124, 3) := by decide +kernel
theorem dX9_term_91 : decode cX9_term 91 = .ok (.ifCond .eq 44, 3) := by decide +kernel
theorem dX9_term_94 : decode cX9_term 94 = .ok (.iload_n 3, 1) := by decide +kernel
theorem dX9_term_95 : decode cX9_term 95 = .ok (.bipush 100, 2) := by decide +kernel
theorem dX9_term_97 : decode cX9_term 97 = .ok (.if_icmp .le 7, 3) := by decide +kernel
theorem dX9_term_100 : decode cX9_term 100 = .ok (.iload_n 3, 1) := by decide +kernel
theorem dX9_term_101 : decode cX9_term 101 = .ok (.goto 20, 3) := by decide +kernel
theorem dX9_term_104 : decode cX9_term 104 = .ok (.bipush 10, 2) := by decide +kernel
theorem dX9_term_106 : decode cX9_term 106 = .ok (.iload_n 3, 1) := by decide +kernel
theorem dX9_term_107 : decode cX9_term 107 = .ok (.imul, 1) := by decide +kernel
theorem dX9_term_108 : decode cX9_term 108 = .ok (.aload_n 0, 1) := by decide +kernel
theorem dX9_term_109 : decode cX9_term 109 = .ok (.getfield 7, 3) := by decide +kernel
theorem dX9_term_112 : decode cX9_term 112 = .ok (.aload_n 0, 1) := by decide +kernel
theorem dX9_term_113 : decode cX9_term 113 = .ok (.getfield 98, 3) := by decide +kernel
theorem dX9_term_116 : decode cX9_term 116 = .ok (.iaload, 1) := by decide +kernel
theorem dX9_term_117 : decode cX9_term 117 = .ok (.iadd, 1) := by decide +kernel
theorem dX9_term_118 : decode cX9_term 118 = .ok (.bipush 48, 2) := by decide +kernel
theorem dX9_term_120 : decode cX9_term 120 = .ok (.isub, 1) := by decide +kernel
theorem dX9_term_121 : decode cX9_term 121 = .ok (.istore_n 3, 1) := by decide +kernel
theorem dX9_term_122 : decode cX9_term 122 = .ok (.aload_n 0, 1) := by decide +kernel
theorem dX9_term_123 : decode cX9_term 123 = .ok (.dup, 1) := by decide +kernel
theorem dX9_term_124 : decode cX9_term 124 = .ok (.getfield 98, 3) := by decide +kernel
theorem dX9_term_127 : decode cX9_term 127 = .ok (.iconst 1, 1) := by decide +kernel
theorem dX9_term_128 : decode cX9_term 128 = .ok (.iadd, 1) := by decide +kernel
theorem dX9_term_129 : decode cX9_term 129 = .ok (.putfield 98, 3) := by decide +kernel
theorem dX9_term_132 : decode cX9_term 132 = .ok (.goto (-64), 3) := by decide +kernel
theorem dX9_term_135 : decode cX9_term 135 = .ok (.iload_n 3, 1) := by decide +kernel
theorem dX9_term_136 : decode cX9_term 136 = .ok (.bipush 12, 2) := by decide +kernel
theorem dX9_term_138 : decode cX9_term 138 = .ok (.if_icmp .ge 24, 3) := by decide +kernel
theorem dX9_term_141 : decode cX9_term 141 = .ok (.aload_n 0, 1) := by decide +kernel
theorem dX9_term_142 : decode cX9_term 142 = .ok (.getfield 98, 3) := by decide +kernel
theorem dX9_term_145 : decode cX9_term 145 = .ok (.iload_n 2, 1) := by decide +kernel
theorem dX9_term_146 : decode cX9_term 146 = .ok (.isub, 1) := by decide +kernel
theorem dX9_term_147 : decode cX9_term 147 = .ok (.iconst 1, 1) := by decide +kernel
theorem dX9_term_148 : decode cX9_term 148 = .ok (.if_icmp .le 21, 3) := by decide +kernel
theorem dX9_term_151 : decode cX9_term 151 = .ok (.aload_n 0, 1) := by decide +kernel
theorem dX9_term_152 : decode cX9_term 152 = .ok (.getfield 7, 3) := by decide +kernel
theorem dX9_term_155 : decode cX9_term 155 = .ok (.iload_n 2, 1) := by decide +kernel
theorem dX9_term_156 : decode cX9_term 156 = .ok (.iaload, 1) := by decide +kernel
theorem dX9_term_157 : decode cX9_term 157 = .ok (.bipush 48, 2) := by decide +kernel
theorem dX9_term_159 : decode cX9_term 159 = .ok (.if_icmp .ne 10, 3) := by decide +kernel
theorem dX9_term_162 : decode cX9_term 162 = .ok (.aload_n 0, 1) := by decide +kernel
theorem dX9_term_163 : decode cX9_term 163 = .ok (.iconst 1, 1) := by decide +kernel
theorem dX9_term_164 : decode cX9_term 164 = .ok (.iload_n 2, 1) := by decide +kernel
theorem dX9_term_165 : decode cX9_term 165 = .ok (.invokevirtual 127, 3) := by decide +kernel
theorem dX9_term_168 : decode cX9_term 168 = .ok (.ireturn, 1) := by decide +kernel
theorem dX9_term_169 : decode cX9_term 169 = .ok (.aload_n 0, 1) := by decide +kernel
theorem dX9_term_170 : decode cX9_term 170 = .ok (.invokevirtual 101, 3) := by decide +kernel
theorem dX9_term_173 : decode cX9_term 173 = .ok (.aload_n 0, 1) := by decide +kernel
theorem dX9_term_174 : decode cX9_term 174 = .ok (.getfield 37, 3) := by decide +kernel
theorem dX9_term_177 : decode cX9_term 177 = .ok (.aload_n 0, 1) := by decide +kernel
theorem dX9_term_178 : decode cX9_term 178 = .ok (.getfield 118, 3) := by decide +kernel
theorem dX9_term_181 : decode cX9_term 181 = .ok (.iload_n 3, 1) := by decide +kernel
theorem dX9_term_182 : decode cX9_term 182 = .ok (.iastore, 1) := by decide +kernel
theorem dX9_term_183 : decode cX9_term 183 = .ok (.aload_n 0, 1) := by decide +kernel
theorem dX9_term_184 : decode cX9_term 184 = .ok (.dup, 1) := by decide +kernel
theorem dX9_term_185 : decode cX9_term 185 = .ok (.getfield 118, 3) := by decide +kernel
theorem dX9_term_188 : decode cX9_term 188 = .ok (.iconst 1, 1) := by decide +kernel
theorem dX9_term_189 : decode cX9_term 189 = .ok (.iadd, 1) := by decide +kernel
theorem dX9_term_190 : decode cX9_term 190 = .ok (.putfield 118, 3) := by decide +kernel
theorem dX9_term_193 : decode cX9_term 193 = .ok (.iconst 1, 1) := by decide +kernel
theorem dX9_term_194 : decode cX9_term 194 = .ok (.ireturn, 1) := by decide +kernel
theorem dX9_beginPart_0 : decode cX9_beginPart 0 = .ok (.aload_n 0, 1) := by decide +kernel
theorem dX9_beginPart_1 : decode cX9_beginPart 1 = .ok (.getfield 22, 3) := by decide +kernel
theorem dX9_beginPart_4 : decode cX9_beginPart 4 = .ok (.aload_n 0, 1) := by decide +kernel
theorem dX9_beginPart_5 : decode cX9_beginPart 5 = .ok (.getfield 131, 3) := by decide +kernel
theorem dX9_beginPart_8 : decode cX9_beginPart 8 = .ok (.iload_n 1, 1) := by decide +kernel
theorem dX9_beginPart_9 : decode cX9_beginPart 9 = .ok (.iastore, 1) := by decide +kernel
theorem dX9_beginPart_10 : decode cX9_beginPart 10 = .ok (.aload_n 0, 1) := by decide +kernel
theorem dX9_beginPart_11 : decode cX9_beginPart 11 = .ok (.getfield 25, 3) := by decide +kernel
theorem dX9_beginPart_14 : decode cX9_beginPart 14 = .ok (.aload_n 0, 1) := by decide +kernel
theorem dX9_beginPart_15 : decode cX9_beginPart 15 = .ok (.getfield 131, 3) := by decide +kernel
theorem dX9_beginPart_18 : decode cX9_beginPart 18 = .ok (.iload_n 2, 1) := by decide +kernel
theorem dX9_beginPart_19 : decode cX9_beginPart 19 = .ok (.iastore, 1) := by decide +kernel
theorem dX9_beginPart_20 : decode cX9_beginPart 20 = .ok (.aload_n 0, 1) := by decide +kernel
theorem dX9_beginPart_21 : decode cX9_beginPart 21 = .ok (.getfield 28, 3) := by decide +kernel
theorem dX9_beginPart_24 : decode cX9_beginPart 24 = .ok (.aload_n 0, 1) := by decide +kernel
theorem dX9_beginPart_25 : decode cX9_beginPart 25 = .ok (.getfield 131, 3) := by decide +kernel
theorem dX9_beginPart_28 : decode cX9_beginPart 28 = .ok (.aload_n 0, 1) := by decide +kernel
theorem dX9_beginPart_29 : decode cX9_beginPart 29 = .ok (.getfield 118, 3) := by decide +kernel
theorem dX9_beginPart_32 : decode cX9_beginPart 32 = .ok (.iastore, 1) := by decide +kernel
theorem dX9_beginPart_33 : decode cX9_beginPart 33 = .ok (.aload_n 0, 1) := by decide +kernel
theorem dX9_beginPart_34 : decode cX9_beginPart 34 = .ok (.getfield 34, 3) := by decide +kernel
theorem dX9_beginPart_37 : decode cX9_beginPart 37 = .ok (.aload_n 0, 1) := by decide +kernel
theorem dX9_beginPart_38 : decode cX9_beginPart 38 = .ok (.getfield 131, 3) := by decide +kernel
theorem dX9_beginPart_41 : decode cX9_beginPart 41 = .ok (.aload_n 0, 1) := by decide +kernel
theorem dX9_beginPart_42 : decode cX9_beginPart 42 = .ok (.getfield 98, 3) := by decide +kernel
theorem dX9_beginPart_45 : decode cX9_beginPart 45 = .ok (.iastore, 1) := by decide +kernel
theorem dX9_beginPart_46 : decode cX9_beginPart 46 = .ok (.aload_n 0, 1) := by decide +kernel
theorem dX9_beginPart_47 : decode cX9_beginPart 47 = .ok (.dup, 1) := by decide +kernel
theorem dX9_beginPart_48 : decode cX9_beginPart 48 = .ok (.getfield 131, 3) := by decide +kernel
theorem dX9_beginPart_51 : decode cX9_beginPart 51 = .ok (.iconst 1, 1) := by decide +kernel
theorem dX9_beginPart_52 : decode cX9_beginPart 52 = .ok (.iadd, 1) := by decide +kernel
theorem dX9_beginPart_53 : decode cX9_beginPart 53 = .ok (.putfield 131, 3) := by decide +kernel
theorem dX9_beginPart_56 : decode cX9_beginPart 56 = .ok (.return_, 1) := by decide +kernel
theorem dX9_endPart_0 : decode cX9_endPart 0 = .ok (.aload_n 0, 1) := by decide +kernel
theorem dX9_endPart_1 : decode cX9_endPart 1 = .ok (.getfield 31, 3) := by decide +kernel
theorem dX9_endPart_4 : decode cX9_endPart 4 = .ok (.aload_n 0, 1) := by decide +kernel
theorem dX9_endPart_5 : decode cX9_endPart 5 = .ok (.getfield 131, 3) := by decide +kernel
theorem dX9_endPart_8 : decode cX9_endPart 8 = .ok (.iconst 1, 1) := by decide +kernel
theorem dX9_endPart_9 : decode cX9_endPart 9 = .ok (.isub, 1) := by decide +kernel
theorem dX9_endPart_10 : decode cX9_endPart 10 = .ok (.aload_n 0, 1) := by decide +kernel
theorem dX9_endPart_11 : decode cX9_endPart 11 = .ok (.getfield 118, 3) := by decide +kernel
theorem dX9_endPart_14 : decode cX9_endPart 14 = .ok (.aload_n 0, 1) := by decide +kernel
theorem dX9_endPart_15 : decode cX9_endPart 15 = .ok (.getfield 28, 3) := by decide +kernel
theorem dX9_endPart_18 : decode cX9_endPart 18 = .ok (.aload_n 0, 1) := by decide +kernel
theorem dX9_endPart_19 : decode cX9_endPart 19 = .ok (.getfield 131, 3) := by decide +kernel
theorem dX9_endPart_22 : decode cX9_endPart 22 = .ok (.iconst 1, 1) := by decide +kernel
theorem dX9_endPart_23 : decode cX9_endPart 23 = .ok (.isub, 1) := by decide +kernel
theorem dX9_endPart_24 : decode cX9_endPart 24 = .ok (.iaload, 1) := by decide +kernel
theorem dX9_endPart_25 : decode cX9_endPart 25 = .ok (.isub, 1) := by decide +kernel
theorem dX9_endPart_26 : decode cX9_endPart 26 = .ok (.iastore, 1) := by decide +kernel
theorem dX9_endPart_27 : decode cX9_endPart 27 = .ok (.return_, 1) := by decide +kernel
theorem dX9_atom_0 : decode cX9_atom 0 = .ok (.aload_n 0, 1) := by decide +kernel
theorem dX9_atom_1 : decode cX9_atom 1 = .ok (.invokevirtual 110, 3) := by decide +kernel
theorem dX9_atom_4 : decode cX9_atom 4 = .ok (.invokestatic 134, 3) := by decide +kernel
theorem dX9_atom_7 : decode cX9_atom 7 = .ok (.ifCond .ne 13, 3) := by decide +kernel
theorem dX9_atom_10 : decode cX9_atom 10 = .ok (.aload_n 0, 1) := by decide +kernel
theorem dX9_atom_11 : decode cX9_atom 11 = .ok (.iconst 1, 1) := by decide +kernel
theorem dX9_atom_12 : decode cX9_atom 12 = .ok (.aload_n 0, 1) := by decide +kernel
theorem dX9_atom_13 : decode cX9_atom 13 = .ok (.getfield 98, 3) := by decide +kernel
theorem dX9_atom_16 : decode cX9_atom 16 = .ok (.invokevirtual 127, 3) := by decide +kernel
theorem dX9_atom_19 : decode cX9_atom 19 = .ok (.ireturn, 1) := by decide +kernel
theorem dX9_atom_20 : decode cX9_atom 20 = .ok (.aload_n 0, 1) := by decide +kernel
theorem dX9_atom_21 : decode cX9_atom 21 = .ok (.iload_n 1, 1) := by decide +kernel
theorem dX9_atom_22 : decode cX9_atom 22 = .ok (.aload_n 0, 1) := by decide +kernel
theorem dX9_atom_23 : decode cX9_atom 23 = .ok (.invokevirtual 110, 3) := by decide +kernel
theorem dX9_atom_26 : decode cX9_atom 26 = .ok (.bipush 97, 2) := by decide +kernel
theorem dX9_atom_28 : decode cX9_atom 28 = .ok (.isub, 1) := by decide +kernel
theorem dX9_atom_29 : decode cX9_atom 29 = .ok (.invokevirtual 137, 3) := by decide +kernel
theorem dX9_atom_32 : decode cX9_atom 32 = .ok (.aload_n 0, 1) := by decide +kernel
theorem dX9_atom_33 : decode cX9_atom 33 = .ok (.invokevirtual 121, 3) := by decide +kernel
theorem dX9_atom_36 : decode cX9_atom 36 = .ok (.aload_n 0, 1) := by decide +kernel
theorem dX9_atom_37 : decode cX9_atom 37 = .ok (.invokevirtual 110, 3) := by decide +kernel
theorem dX9_atom_40 : decode cX9_atom 40 = .ok (.bipush 40, 2) := by decide +kernel
theorem dX9_atom_42 : decode cX9_atom 42 = .ok (.if_icmp .ne 91, 3) := by decide +kernel
theorem dX9_atom_45 : decode cX9_atom 45 = .ok (.aload_n 0, 1) := by decide +kernel
theorem dX9_atom_46 : decode cX9_atom 46 = .ok (.invokevirtual 121, 3) := by decide +kernel
theorem dX9_atom_49 : decode cX9_atom 49 = .ok (.iconst 1, 1) := by decide +kernel
theorem dX9_atom_50 : decode cX9_atom 50 = .ok (.istore_n 2, 1) := by decide +kernel
theorem dX9_atom_51 : decode cX9_atom 51 = .ok (.iload_n 2, 1) := by decide +kernel
theorem dX9_atom_52 : decode cX9_atom 52 = .ok (.ifCond .eq 58, 3) := by decide +kernel
theorem dX9_atom_55 : decode cX9_atom 55 = .ok (.aload_n 0, 1) := by decide +kernel
theorem dX9_atom_56 : decode cX9_atom 56 = .ok (.invokevirtual 141, 3) := by decide +kernel
theorem dX9_atom_59 : decode cX9_atom 59 = .ok (.ifCond .ne 5, 3) := by decide +kernel
theorem dX9_atom_62 : decode cX9_atom 62 = .ok (.iconst 0, 1) := by decide +kernel
theorem dX9_atom_63 : decode cX9_atom 63 = .ok (.ireturn, 1) := by decide +kernel
theorem dX9_atom_64 : decode cX9_atom 64 = .ok (.aload_n 0, 1) := by decide +kernel
theorem dX9_atom_65 : decode cX9_atom 65 = .ok (.invokevirtual 110, 3) := by decide +kernel
theorem dX9_atom_68 : decode cX9_atom 68 = .ok (.bipush 44, 2) := by decide +kernel
theorem dX9_atom_70 : decode cX9_atom 70 = .ok (.if_icmp .ne 27, 3) := by decide +kernel
theorem dX9_atom_73 : decode cX9_atom 73 = .ok (.aload_n 0, 1) := by decide +kernel
theorem dX9_atom_74 : decode cX9_atom 74 = .ok (.getfield 118, 3) := by decide +kernel
theorem dX9_atom_77 : decode cX9_atom 77 = .ok (.aload_n 0, 1) := by decide +kernel
theorem dX9_atom_78 : decode cX9_atom 78 = .ok (.getfield 28, 3) := by decide +kernel
theorem dX9_atom_81 : decode cX9_atom 81 = .ok (.aload_n 0, 1) := by decide +kernel
theorem dX9_atom_82 : decode cX9_atom 82 = .ok (.getfield 131, 3) := by decide +kernel
theorem dX9_atom_85 : decode cX9_atom 85 = .ok (.iconst 1, 1) := by decide +kernel
theorem dX9_atom_86 : decode cX9_atom 86 = .ok (.isub, 1) := by decide +kernel
theorem dX9_atom_87 : decode cX9_atom 87 = .ok (.iaload, 1) := by decide +kernel
theorem dX9_atom_88 : decode cX9_atom 88 = .ok (.isub, 1) := by decide +kernel
theorem dX9_atom_89 : decode cX9_atom 89 = .ok (.iconst 3, 1) := by decide +kernel
theorem dX9_atom_90 : decode cX9_atom 90 = .ok (.if_icmp .ge 7, 3) := by decide +kernel
theorem dX9_atom_93 : decode cX9_atom 93 = .ok (.iconst 1, 1) := by decide +kernel
theorem dX9_atom_94 : decode cX9_atom 94 = .ok (.goto 4, 3) := by decide +kernel
theorem dX9_atom_97 : decode cX9_atom 97 = .ok (.iconst 0, 1) := by decide +kernel
theorem dX9_atom_98 : decode cX9_atom 98 = .ok (.istore_n 2, 1) := by decide +kernel
theorem dX9_atom_99 : decode cX9_atom 99 = .ok (.iload_n 2, 1) := by decide +kernel
theorem dX9_atom_100 : decode cX9_atom 100 = .ok (.ifCond .eq (-49), 3) := by decide +kernel
theorem dX9_atom_103 : decode cX9_atom 103 = .ok (.aload_n 0, 1) := by decide +kernel
theorem dX9_atom_104 : decode cX9_atom 104 = .ok (.invokevirtual 121, 3) := by decide +kernel
theorem dX9_atom_107 : decode cX9_atom 107 = .ok (.goto (-56), 3) := by decide +kernel
theorem dX9_atom_110 : decode cX9_atom 110 = .ok (.aload_n 0, 1) := by decide +kernel
theorem dX9_atom_111 : decode cX9_atom 111 = .ok (.invokevirtual 110, 3) := by decide +kernel
theorem dX9_atom_114 : decode cX9_atom 114 = .ok (.bipush 41, 2) := by decide +kernel
theorem dX9_atom_116 : decode cX9_atom 116 = .ok (.if_icmp .eq 13, 3) := by decide +kernel
theorem dX9_atom_119 : decode cX9_atom 119 = .ok (.aload_n 0, 1) := by decide +kernel
theorem dX9_atom_120 : decode cX9_atom 120 = .ok (.iconst 1, 1) := by decide +kernel
theorem dX9_atom_121 : decode cX9_atom 121 = .ok (.aload_n 0, 1) := by decide +kernel
theorem dX9_atom_122 : decode cX9_atom 122 = .ok (.getfield 98, 3) := by decide +kernel
theorem dX9_atom_125 : decode cX9_atom 125 = .ok (.invokevirtual 127, 3) := by decide +kernel
theorem dX9_atom_128 : decode cX9_atom 128 = .ok (.ireturn, 1) := by decide +kernel
theorem dX9_atom_129 : decode cX9_atom 129 = .ok (.aload_n 0, 1) := by decide +kernel
theorem dX9_atom_130 : decode cX9_atom 130 = .ok (.invokevirtual 121, 3) := by decide +kernel
theorem dX9_atom_133 : decode cX9_atom 133 = .ok (.aload_n 0, 1) := by decide +kernel
theorem dX9_atom_134 : decode cX9_atom 134 = .ok (.invokevirtual 144, 3) := by decide +kernel
theorem dX9_atom_137 : decode cX9_atom 137 = .ok (.iconst 1, 1) := by decide +kernel
theorem dX9_atom_138 : decode cX9_atom 138 = .ok (.ireturn, 1) := by decide +kernel
theorem dX9_part_0 : decode cX9_part 0 = .ok (.aload_n 0, 1) := by decide +kernel
theorem dX9_part_1 : decode cX9_part 1 = .ok (.invokevirtual 110, 3) := by decide +kernel
theorem dX9_part_4 : decode cX9_part 4 = .ok (.istore_n 1, 1) := by decide +kernel
theorem dX9_part_5 : decode cX9_part 5 = .ok (.iload_n 1, 1) := by decide +kernel
theorem dX9_part_6 : decode cX9_part 6 = .ok (.bipush 33, 2) := by decide +kernel
theorem dX9_part_8 : decode cX9_part 8 = .ok (.if_icmp .ne 13, 3) := by decide +kernel
theorem dX9_part_11 : decode cX9_part 11 = .ok (.aload_n 0, 1) := by decide +kernel
theorem dX9_part_12 : decode cX9_part 12 = .ok (.invokevirtual 121, 3) := by decide +kernel
theorem dX9_part_15 : decode cX9_part 15 = .ok (.aload_n 0, 1) := by decide +kernel
theorem dX9_part_16 : decode cX9_part 16 = .ok (.iconst 1, 1) := by decide +kernel
theorem dX9_part_17 : decode cX9_part 17 = .ok (.invokevirtual 147, 3) := by decide +kernel
theorem dX9_part_20 : decode cX9_part 20 = .ok (.ireturn, 1) := by decide +kernel
theorem dX9_part_21 : decode cX9_part 21 = .ok (.iload_n 1, 1) := by decide +kernel
theorem dX9_part_22 : decode cX9_part 22 = .ok (.invokestatic 134, 3) := by decide +kernel
theorem dX9_part_25 : decode cX9_part 25 = .ok (.ifCond .eq 9, 3) := by decide +kernel
theorem dX9_part_28 : decode cX9_part 28 = .ok (.aload_n 0, 1) := by decide +kernel
theorem dX9_part_29 : decode cX9_part 29 = .ok (.iconst 0, 1) := by decide +kernel
theorem dX9_part_30 : decode cX9_part 30 = .ok (.invokevirtual 147, 3) := by decide +kernel
theorem dX9_part_33 : decode cX9_part 33 = .ok (.ireturn, 1) := by decide +kernel
theorem dX9_part_34 : decode cX9_part 34 = .ok (.aload_n 0, 1) := by decide +kernel
theorem dX9_part_35 : decode cX9_part 35 = .ok (.iconst 2, 1) := by decide +kernel
theorem dX9_part_36 : decode cX9_part 36 = .ok (.iconst (-1), 1) := by decide +kernel
theorem dX9_part_37 : decode cX9_part 37 = .ok (.invokevirtual 137, 3) := by decide +kernel
theorem dX9_part_40 : decode cX9_part 40 = .ok (.aload_n 0, 1) := by decide +kernel
theorem dX9_part_41 : decode cX9_part 41 = .ok (.invokevirtual 141, 3) := by decide +kernel
theorem dX9_part_44 : decode cX9_part 44 = .ok (.ifCond .ne 5, 3) := by decide +kernel
theorem dX9_part_47 : decode cX9_part 47 = .ok (.iconst 0, 1) := by decide +kernel
theorem dX9_part_48 : decode cX9_part 48 = .ok (.ireturn, 1) := by decide +kernel
theorem dX9_part_49 : decode cX9_part 49 = .ok (.aload_n 0, 1) := by decide +kernel
theorem dX9_part_50 : decode cX9_part 50 = .ok (.invokevirtual 110, 3) := by decide +kernel
theorem dX9_part_53 : decode cX9_part 53 = .ok (.istore_n 1, 1) := by decide +kernel
theorem dX9_part_54 : decode cX9_part 54 = .ok (.iload_n 1, 1) := by decide +kernel
theorem dX9_part_55 : decode cX9_part 55 = .ok (.bipush 61, 2) := by decide +kernel
theorem dX9_part_57 : decode cX9_part 57 = .ok (.if_icmp .eq 25, 3) := by decide +kernel
theorem dX9_part_60 : decode cX9_part 60 = .ok (.iload_n 1, 1) := by decide +kernel
theorem dX9_part_61 : decode cX9_part 61 = .ok (.bipush 35, 2) := by decide +kernel
theorem dX9_part_63 : decode cX9_part 63 = .ok (.if_icmp .eq 19, 3) := by decide +kernel
theorem dX9_part_66 : decode cX9_part 66 = .ok (.iload_n 1, 1) := by decide +kernel
theorem dX9_part_67 : decode cX9_part 67 = .ok (.bipush 60, 2) := by decide +kernel
theorem dX9_part_69 : decode cX9_part 69 = .ok (.if_icmp .eq 13, 3) := by decide +kernel
theorem dX9_part_72 : decode cX9_part 72 = .ok (.aload_n 0, 1) := by decide +kernel
theorem dX9_part_73 : decode cX9_part 73 = .ok (.iconst 1, 1) := by decide +kernel
theorem dX9_part_74 : decode cX9_part 74 = .ok (.aload_n 0, 1) := by decide +kernel
theorem dX9_part_75 : decode cX9_part 75 = .ok (.getfield 98, 3) := by decide +kernel
theorem dX9_part_78 : decode cX9_part 78 = .ok (.invokevirtual 127, 3) := by decide +kernel
theorem dX9_part_81 : decode cX9_part 81 = .ok (.ireturn, 1) := by decide +kernel
theorem dX9_part_82 : decode cX9_part 82 = .ok (.aload_n 0, 1) := by decide +kernel
theorem dX9_part_83 : decode cX9_part 83 = .ok (.getfield 22, 3) := by decide +kernel
theorem dX9_part_86 : decode cX9_part 86 = .ok (.aload_n 0, 1) := by decide +kernel
theorem dX9_part_87 : decode cX9_part 87 = .ok (.getfield 131, 3) := by decide +kernel
theorem dX9_part_90 : decode cX9_part 90 = .ok (.iconst 1, 1) := by decide +kernel
theorem dX9_part_91 : decode cX9_part 91 = .ok (.isub, 1) := by decide +kernel
theorem dX9_part_92 : decode cX9_part 92 = .ok (.iload_n 1, 1) := by decide +kernel
theorem dX9_part_93 : decode cX9_part 93 = .ok (.bipush 61, 2) := by decide +kernel
theorem dX9_part_95 : decode cX9_part 95 = .ok (.if_icmp .ne 7, 3) := by decide +kernel
theorem dX9_part_98 : decode cX9_part 98 = .ok (.iconst 2, 1) := by decide +kernel
theorem dX9_part_99 : decode cX9_part 99 = .ok (.goto 14, 3) := by decide +kernel
theorem dX9_part_102 : decode cX9_part 102 = .ok (.iload_n 1, 1) := by decide +kernel
theorem dX9_part_103 : decode cX9_part 103 = .ok (.bipush 35, 2) := by decide +kernel
theorem dX9_part_105 : decode cX9_part 105 = .ok (.if_icmp .ne 7, 3) := by decide +kernel
theorem dX9_part_108 : decode cX9_part 108 = .ok (.iconst 3, 1) := by decide +kernel
theorem dX9_part_109 : decode cX9_part 109 = .ok (.goto 4, 3) := by decide +kernel
theorem dX9_part_112 : decode cX9_part 112 = .ok (.iconst 4, 1) := by decide +kernel
theorem dX9_part_113 : decode cX9_part 113 = .ok (.iastore, 1) := by decide +kernel
theorem dX9_part_114 : decode cX9_part 114 = .ok (.aload_n 0, 1) := by decide +kernel
theorem dX9_part_115 : decode cX9_part 115 = .ok (.invokevirtual 121, 3) := by decide +kernel
theorem dX9_part_118 : decode cX9_part 118 = .ok (.aload_n 0, 1) := by decide +kernel
theorem dX9_part_119 : decode cX9_part 119 = .ok (.invokevirtual 141, 3) := by decide +kernel
theorem dX9_part_122 : decode cX9_part 122 = .ok (.ifCond .ne 5, 3) := by decide +kernel
theorem dX9_part_125 : decode cX9_part 125 = .ok (.iconst 0, 1) := by decide +kernel
theorem dX9_part_126 : decode cX9_part 126 = .ok (.ireturn, 1) := by decide +kernel
theorem dX9_part_127 : decode cX9_part 127 = .ok (.aload_n 0, 1) := by decide +kernel
theorem dX9_part_128 : decode cX9_part 128 = .ok (.invokevirtual 144, 3) := by decide +kernel
theorem dX9_part_131 : decode cX9_part 131 = .ok (.iconst 1, 1) := by decide +kernel
theorem dX9_part_132 : decode cX9_part 132 = .ok (.ireturn, 1) := by decide +kernel
theorem dX9_ruleText_0 : decode cX9_ruleText 0 = .ok (.aload_n 0, 1) := by decide +kernel
theorem dX9_ruleText_1 : decode cX9_ruleText 1 = .ok (.getfield 13, 3) := by decide +kernel
theorem dX9_ruleText_4 : decode cX9_ruleText 4 = .ok (.aload_n 0, 1) := by decide +kernel
theorem dX9_ruleText_5 : decode cX9_ruleText 5 = .ok (.getfield 150, 3) := by decide +kernel
theorem dX9_ruleText_8 : decode cX9_ruleText 8 = .ok (.aload_n 0, 1) := by decide +kernel
theorem dX9_ruleText_9 : decode cX9_ruleText 9 = .ok (.getfield 131, 3) := by decide +kernel
theorem dX9_ruleText_12 : decode cX9_ruleText 12 = .ok (.iastore, 1) := by decide +kernel
theorem dX9_ruleText_13 : decode cX9_ruleText 13 = .ok (.aload_n 0, 1) := by decide +kernel
theorem dX9_ruleText_14 : decode cX9_ruleText 14 = .ok (.getfield 19, 3) := by decide +kernel
theorem dX9_ruleText_17 : decode cX9_ruleText 17 = .ok (.aload_n 0, 1) := by decide +kernel
theorem dX9_ruleText_18 : decode cX9_ruleText 18 = .ok (.getfield 150, 3) := by decide +kernel
theorem dX9_ruleText_21 : decode cX9_ruleText 21 = .ok (.aload_n 0, 1) := by decide +kernel
theorem dX9_ruleText_22 : decode cX9_ruleText 22 = .ok (.getfield 98, 3) := by decide +kernel
theorem dX9_ruleText_25 : decode cX9_ruleText 25 = .ok (.iastore, 1) := by decide +kernel
theorem dX9_ruleText_26 : decode cX9_ruleText 26 = .ok (.aload_n 0, 1) := by decide +kernel
theorem dX9_ruleText_27 : decode cX9_ruleText 27 = .ok (.dup, 1) := by decide +kernel
theorem dX9_ruleText_28 : decode cX9_ruleText 28 = .ok (.getfield 150, 3) := by decide +kernel
theorem dX9_ruleText_31 : decode cX9_ruleText 31 = .ok (.iconst 1, 1) := by decide +kernel
theorem dX9_ruleText_32 : decode cX9_ruleText 32 = .ok (.iadd, 1) := by decide +kernel
theorem dX9_ruleText_33 : decode cX9_ruleText 33 = .ok (.putfield 150, 3) := by decide +kernel
theorem dX9_ruleText_36 : decode cX9_ruleText 36 = .ok (.aload_n 0, 1) := by decide +kernel
theorem dX9_ruleText_37 : decode cX9_ruleText 37 = .ok (.iconst 0, 1) := by decide +kernel
theorem dX9_ruleText_38 : decode cX9_ruleText 38 = .ok (.invokevirtual 147, 3) := by decide +kernel
theorem dX9_ruleText_41 : decode cX9_ruleText 41 = .ok (.ifCond .ne 5, 3) := by decide +kernel
theorem dX9_ruleText_44 : decode cX9_ruleText 44 = .ok (.iconst 0, 1) := by decide +kernel
theorem dX9_ruleText_45 : decode cX9_ruleText 45 = .ok (.ireturn, 1) := by decide +kernel
theorem dX9_ruleText_46 : decode cX9_ruleText 46 = .ok (.aload_n 0, 1) := by decide +kernel
theorem dX9_ruleText_47 : decode cX9_ruleText 47 = .ok (.invokevirtual 110, 3) := by decide +kernel
theorem dX9_ruleText_50 : decode cX9_ruleText 50 = .ok (.bipush 58, 2) := by decide +kernel
theorem dX9_ruleText_52 : decode cX9_ruleText 52 = .ok (.if_icmp .ne 77, 3) := by decide +kernel
theorem dX9_ruleText_55 : decode cX9_ruleText 55 = .ok (.aload_n 0, 1) := by decide +kernel
theorem dX9_ruleText_56 : decode cX9_ruleText 56 = .ok (.dup, 1) := by decide +kernel
theorem dX9_ruleText_57 : decode cX9_ruleText 57 = .ok (.getfield 98, 3) := by decide +kernel
theorem dX9_ruleText_60 : decode cX9_ruleText 60 = .ok (.iconst 1, 1) := by decide +kernel
theorem dX9_ruleText_61 : decode cX9_ruleText 61 = .ok (.iadd, 1) := by decide +kernel
theorem dX9_ruleText_62 : decode cX9_ruleText 62 = .ok (.putfield 98, 3) := by decide +kernel
theorem dX9_ruleText_65 : decode cX9_ruleText 65 = .ok (.aload_n 0, 1) := by decide +kernel
theorem dX9_ruleText_66 : decode cX9_ruleText 66 = .ok (.invokevirtual 110, 3) := by decide +kernel
theorem dX9_ruleText_69 : decode cX9_ruleText 69 = .ok (.bipush 45, 2) := by decide +kernel
theorem dX9_ruleText_71 : decode cX9_ruleText 71 = .ok (.if_icmp .eq 13, 3) := by decide +kernel
theorem dX9_ruleText_74 : decode cX9_ruleText 74 = .ok (.aload_n 0, 1) := by decide +kernel
theorem dX9_ruleText_75 : decode cX9_ruleText 75 = .ok (.iconst 1, 1) := by decide +kernel
theorem dX9_ruleText_76 : decode cX9_ruleText 76 = .ok (.aload_n 0, 1) := by decide +kernel
theorem dX9_ruleText_77 : decode cX9_ruleText 77 = .ok (.getfield 98, 3) := by decide +kernel
theorem dX9_ruleText_80 : decode cX9_ruleText 80 = .ok (.invokevirtual 127, 3) := by decide +kernel
theorem dX9_ruleText_83 : decode cX9_ruleText 83 = .ok (.ireturn, 1) := by decide +kernel
theorem dX9_ruleText_84 : decode cX9_ruleText 84 = .ok (.aload_n 0, 1) := by decide +kernel
theorem dX9_ruleText_85 : decode cX9_ruleText 85 = .ok (.invokevirtual 121, 3) := by decide +kernel
theorem dX9_ruleText_88 : decode cX9_ruleText 88 = .ok (.iconst 1, 1) := by decide +kernel
theorem dX9_ruleText_89 : decode cX9_ruleText 89 = .ok (.istore_n 1, 1) := by decide +kernel
theorem dX9_ruleText_90 : decode cX9_ruleText 90 = .ok (.iload_n 1, 1) := by decide +kernel
theorem dX9_ruleText_91 : decode cX9_ruleText 91 = .ok (.ifCond .eq 38, 3) := by decide +kernel
theorem dX9_ruleText_94 : decode cX9_ruleText 94 = .ok (.aload_n 0, 1) := by decide +kernel
theorem dX9_ruleText_95 : decode cX9_ruleText 95 = .ok (.invokevirtual 153, 3) := by decide +kernel
theorem dX9_ruleText_98 : decode cX9_ruleText 98 = .ok (.ifCond .ne 5, 3) := by decide +kernel
theorem dX9_ruleText_101 : decode cX9_ruleText 101 = .ok (.iconst 0, 1) := by decide +kernel
theorem dX9_ruleText_102 : decode cX9_ruleText 102 = .ok (.ireturn, 1) := by decide +kernel
theorem dX9_ruleText_103 : decode cX9_ruleText 103 = .ok (.aload_n 0, 1) := by decide +kernel
theorem dX9_ruleText_104 : decode cX9_ruleText 104 = .ok (.invokevirtual 110, 3) := by decide +kernel
theorem dX9_ruleText_107 : decode cX9_ruleText 107 = .ok (.bipush 44, 2) := by decide +kernel
theorem dX9_ruleText_109 : decode cX9_ruleText 109 = .ok (.if_icmp .ne 7, 3) := by decide +kernel
theorem dX9_ruleText_112 : decode cX9_ruleText 112 = .ok (.iconst 1, 1) := by decide +kernel
theorem dX9_ruleText_113 : decode cX9_ruleText 113 = .ok (.goto 4, 3) := by decide +kernel
theorem dX9_ruleText_116 : decode cX9_ruleText 116 = .ok (.iconst 0, 1) := by decide +kernel
theorem dX9_ruleText_117 : decode cX9_ruleText 117 = .ok (.istore_n 1, 1) := by decide +kernel
theorem dX9_ruleText_118 : decode cX9_ruleText 118 = .ok (.iload_n 1, 1) := by decide +kernel
theorem dX9_ruleText_119 : decode cX9_ruleText 119 = .ok (.ifCond .eq (-29), 3) := by decide +kernel
theorem dX9_ruleText_122 : decode cX9_ruleText 122 = .ok (.aload_n 0, 1) := by decide +kernel
theorem dX9_ruleText_123 : decode cX9_ruleText 123 = .ok (.invokevirtual 121, 3) := by decide +kernel
theorem dX9_ruleText_126 : decode cX9_ruleText 126 = .ok (.goto (-36), 3) := by decide +kernel
theorem dX9_ruleText_129 : decode cX9_ruleText 129 = .ok (.aload_n 0, 1) := by decide +kernel
theorem dX9_ruleText_130 : decode cX9_ruleText 130 = .ok (.invokevirtual 110, 3) := by decide +kernel
theorem dX9_ruleText_133 : decode cX9_ruleText 133 = .ok (.bipush 46, 2) := by decide +kernel
theorem dX9_ruleText_135 : decode cX9_ruleText 135 = .ok (.if_icmp .eq 13, 3) := by decide +kernel
theorem dX9_ruleText_138 : decode cX9_ruleText 138 = .ok (.aload_n 0, 1) := by decide +kernel
theorem dX9_ruleText_139 : decode cX9_ruleText 139 = .ok (.iconst 1, 1) := by decide +kernel
theorem dX9_ruleText_140 : decode cX9_ruleText 140 = .ok (.aload_n 0, 1) := by decide +kernel
theorem dX9_ruleText_141 : decode cX9_ruleText 141 = .ok (.getfield 98, 3) := by decide +kernel
theorem dX9_ruleText_144 : decode cX9_ruleText 144 = .ok (.invokevirtual 127, 3) := by decide +kernel
theorem dX9_ruleText_147 : decode cX9_ruleText 147 = .ok (.ireturn, 1) := by decide +kernel
theorem dX9_ruleText_148 : decode cX9_ruleText 148 = .ok (.aload_n 0, 1) := by decide +kernel
theorem dX9_ruleText_149 : decode cX9_ruleText 149 = .ok (.invokevirtual 121, 3) := by decide +kernel
theorem dX9_ruleText_152 : decode cX9_ruleText 152 = .ok (.aload_n 0, 1) := by decide +kernel
theorem dX9_ruleText_153 : decode cX9_ruleText 153 = .ok (.getfield 16, 3) := by decide +kernel
theorem dX9_ruleText_156 : decode cX9_ruleText 156 = .ok (.aload_n 0, 1) := by decide +kernel
theorem dX9_ruleText_157 : decode cX9_ruleText 157 = .ok (.getfield 150, 3) := by decide +kernel
theorem dX9_ruleText_160 : decode cX9_ruleText 160 = .ok (.iconst 1, 1) := by decide +kernel
theorem dX9_ruleText_161 : decode cX9_ruleText 161 = .ok (.isub, 1) := by decide +kernel
theorem dX9_ruleText_162 : decode cX9_ruleText 162 = .ok (.aload_n 0, 1) := by decide +kernel
theorem dX9_ruleText_163 : decode cX9_ruleText 163 = .ok (.getfield 131, 3) := by decide +kernel
theorem dX9_ruleText_166 : decode cX9_ruleText 166 = .ok (.aload_n 0, 1) := by decide +kernel
theorem dX9_ruleText_167 : decode cX9_ruleText 167 = .ok (.getfield 13, 3) := by decide +kernel
theorem dX9_ruleText_170 : decode cX9_ruleText 170 = .ok (.aload_n 0, 1) := by decide +kernel
theorem dX9_ruleText_171 : decode cX9_ruleText 171 = .ok (.getfield 150, 3) := by decide +kernel
theorem dX9_ruleText_174 : decode cX9_ruleText 174 = .ok (.iconst 1, 1) := by decide +kernel
theorem dX9_ruleText_175 : decode cX9_ruleText 175 = .ok (.isub, 1) := by decide +kernel
theorem dX9_ruleText_176 : decode cX9_ruleText 176 = .ok (.iaload, 1) := by decide +kernel
theorem dX9_ruleText_177 : decode cX9_ruleText 177 = .ok (.isub, 1) := by decide +kernel
theorem dX9_ruleText_178 : decode cX9_ruleText 178 = .ok (.iconst 1, 1) := by decide +kernel
theorem dX9_ruleText_179 : decode cX9_ruleText 179 = .ok (.isub, 1) := by decide +kernel
theorem dX9_ruleText_180 : decode cX9_ruleText 180 = .ok (.iastore, 1) := by decide +kernel
theorem dX9_ruleText_181 : decode cX9_ruleText 181 = .ok (.iconst 1, 1) := by decide +kernel
theorem dX9_ruleText_182 : decode cX9_ruleText 182 = .ok (.ireturn, 1) := by decide +kernel
theorem dX9_isAtom_0 : decode cX9_isAtom 0 = .ok (.aload_n 0, 1) := by decide +kernel
theorem dX9_isAtom_1 : decode cX9_isAtom 1 = .ok (.getfield 22, 3) := by decide +kernel
theorem dX9_isAtom_4 : decode cX9_isAtom 4 = .ok (.iload_n 1, 1) := by decide +kernel
theorem dX9_isAtom_5 : decode cX9_isAtom 5 = .ok (.iaload, 1) := by decide +kernel
theorem dX9_isAtom_6 : decode cX9_isAtom 6 = .ok (.iconst 1, 1) := by decide +kernel
theorem dX9_isAtom_7 : decode cX9_isAtom 7 = .ok (.if_icmp .gt 7, 3) := by decide +kernel
theorem dX9_isAtom_10 : decode cX9_isAtom 10 = .ok (.iconst 1, 1) := by decide +kernel
theorem dX9_isAtom_11 : decode cX9_isAtom 11 = .ok (.goto 4, 3) := by decide +kernel
theorem dX9_isAtom_14 : decode cX9_isAtom 14 = .ok (.iconst 0, 1) := by decide +kernel
theorem dX9_isAtom_15 : decode cX9_isAtom 15 = .ok (.ireturn, 1) := by decide +kernel
theorem dX9_widths_0 : decode cX9_widths 0 = .ok (.iconst 0, 1) := by decide +kernel
theorem dX9_widths_1 : decode cX9_widths 1 = .ok (.istore_n 1, 1) := by decide +kernel
theorem dX9_widths_2 : decode cX9_widths 2 = .ok (.iload_n 1, 1) := by decide +kernel
theorem dX9_widths_3 : decode cX9_widths 3 = .ok (.aload_n 0, 1) := by decide +kernel
theorem dX9_widths_4 : decode cX9_widths 4 = .ok (.getfield 131, 3) := by decide +kernel
theorem dX9_widths_7 : decode cX9_widths 7 = .ok (.if_icmp .ge 80, 3) := by decide +kernel
theorem dX9_widths_10 : decode cX9_widths 10 = .ok (.iconst 0, 1) := by decide +kernel
theorem dX9_widths_11 : decode cX9_widths 11 = .ok (.istore_n 2, 1) := by decide +kernel
theorem dX9_widths_12 : decode cX9_widths 12 = .ok (.iload_n 2, 1) := by decide +kernel
theorem dX9_widths_13 : decode cX9_widths 13 = .ok (.iload_n 1, 1) := by decide +kernel
theorem dX9_widths_14 : decode cX9_widths 14 = .ok (.if_icmp .ge 67, 3) := by decide +kernel
theorem dX9_widths_17 : decode cX9_widths 17 = .ok (.aload_n 0, 1) := by decide +kernel
theorem dX9_widths_18 : decode cX9_widths 18 = .ok (.iload_n 1, 1) := by decide +kernel
theorem dX9_widths_19 : decode cX9_widths 19 = .ok (.invokevirtual 156, 3) := by decide +kernel
theorem dX9_widths_22 : decode cX9_widths 22 = .ok (.ifCond .eq 59, 3) := by decide +kernel
theorem dX9_widths_25 : decode cX9_widths 25 = .ok (.aload_n 0, 1) := by decide +kernel
theorem dX9_widths_26 : decode cX9_widths 26 = .ok (.iload_n 2, 1) := by decide +kernel
theorem dX9_widths_27 : decode cX9_widths 27 = .ok (.invokevirtual 156, 3) := by decide +kernel
theorem dX9_widths_30 : decode cX9_widths 30 = .ok (.ifCond .eq 45, 3) := by decide +kernel
theorem dX9_widths_33 : decode cX9_widths 33 = .ok (.aload_n 0, 1) := by decide +kernel
theorem dX9_widths_34 : decode cX9_widths 34 = .ok (.getfield 25, 3) := by decide +kernel
theorem dX9_widths_37 : decode cX9_widths 37 = .ok (.iload_n 2, 1) := by decide +kernel
theorem dX9_widths_38 : decode cX9_widths 38 = .ok (.iaload, 1) := by decide +kernel
theorem dX9_widths_39 : decode cX9_widths 39 = .ok (.aload_n 0, 1) := by decide +kernel
theorem dX9_widths_40 : decode cX9_widths 40 = .ok (.getfield 25, 3) := by decide +kernel
theorem dX9_widths_43 : decode cX9_widths 43 = .ok (.iload_n 1, 1) := by decide +kernel
theorem dX9_widths_44 : decode cX9_widths 44 = .ok (.iaload, 1) := by decide +kernel
theorem dX9_widths_45 : decode cX9_widths 45 = .ok (.if_icmp .ne 30, 3) := by decide +kernel
theorem dX9_widths_48 : decode cX9_widths 48 = .ok (.aload_n 0, 1) := by decide +kernel
theorem dX9_widths_49 : decode cX9_widths 49 = .ok (.getfield 31, 3) := by decide +kernel
theorem dX9_widths_52 : decode cX9_widths 52 = .ok (.iload_n 2, 1) := by decide +kernel
theorem dX9_widths_53 : decode cX9_widths 53 = .ok (.iaload, 1) := by decide +kernel
theorem dX9_widths_54 : decode cX9_widths 54 = .ok (.aload_n 0, 1) := by decide +kernel
theorem dX9_widths_55 : decode cX9_widths 55 = .ok (.getfield 31, 3) := by decide +kernel
theorem dX9_widths_58 : decode cX9_widths 58 = .ok (.iload_n 1, 1) := by decide +kernel
theorem dX9_widths_59 : decode cX9_widths 59 = .ok (.iaload, 1) := by decide +kernel
theorem dX9_widths_60 : decode cX9_widths 60 = .ok (.if_icmp .eq 15, 3) := by decide +kernel
theorem dX9_widths_63 : decode cX9_widths 63 = .ok (.aload_n 0, 1) := by decide +kernel
theorem dX9_widths_64 : decode cX9_widths 64 = .ok (.iconst 2, 1) := by decide +kernel
theorem dX9_widths_65 : decode cX9_widths 65 = .ok (.aload_n 0, 1) := by decide +kernel
theorem dX9_widths_66 : decode cX9_widths 66 = .ok (.getfield 34, 3) := by decide +kernel
theorem dX9_widths_69 : decode cX9_widths 69 = .ok (.iload_n 1, 1) := by decide +kernel
theorem dX9_widths_70 : decode cX9_widths 70 = .ok (.iaload, 1) := by decide +kernel
theorem dX9_widths_71 : decode cX9_widths 71 = .ok (.invokevirtual 127, 3) := by decide +kernel
theorem dX9_widths_74 : decode cX9_widths 74 = .ok (.ireturn, 1) := by decide +kernel
theorem dX9_widths_75 : decode cX9_widths 75 = .ok (.iinc 2 1, 3) := by decide +kernel
theorem dX9_widths_78 : decode cX9_widths 78 = .ok (.goto (-66), 3) := by decide +kernel
theorem dX9_widths_81 : decode cX9_widths 81 = .ok (.iinc 1 1, 3) := by decide +kernel
theorem dX9_widths_84 : decode cX9_widths 84 = .ok (.goto (-82), 3) := by decide +kernel
theorem dX9_widths_87 : decode cX9_widths 87 = .ok (.iconst 1, 1) := by decide +kernel
theorem dX9_widths_88 : decode cX9_widths 88 = .ok (.ireturn, 1) := by decide +kernel
theorem dX9_variables_0 : decode cX9_variables 0 = .ok (.iconst 0, 1) := by decide +kernel
theorem dX9_variables_1 : decode cX9_variables 1 = .ok (.istore_n 2, 1) := by decide +kernel
theorem dX9_variables_2 : decode cX9_variables 2 = .ok (.iconst 0, 1) := by decide +kernel
theorem dX9_variables_3 : decode cX9_variables 3 = .ok (.istore_n 3, 1) := by decide +kernel
theorem dX9_variables_4 : decode cX9_variables 4 = .ok (.aload_n 0, 1) := by decide +kernel
theorem dX9_variables_5 : decode cX9_variables 5 = .ok (.getfield 28, 3) := by decide +kernel
theorem dX9_variables_8 : decode cX9_variables 8 = .ok (.aload_n 0, 1) := by decide +kernel
theorem dX9_variables_9 : decode cX9_variables 9 = .ok (.getfield 13, 3) := by decide +kernel
theorem dX9_variables_12 : decode cX9_variables 12 = .ok (.iload_n 1, 1) := by decide +kernel
theorem dX9_variables_13 : decode cX9_variables 13 = .ok (.iaload, 1) := by decide +kernel
theorem dX9_variables_14 : decode cX9_variables 14 = .ok (.iaload, 1) := by decide +kernel
theorem dX9_variables_15 : decode cX9_variables 15 = .ok (.istore 4, 2) := by decide +kernel
theorem dX9_variables_17 : decode cX9_variables 17 = .ok (.aload_n 0, 1) := by decide +kernel
theorem dX9_variables_18 : decode cX9_variables 18 = .ok (.getfield 13, 3) := by decide +kernel
theorem dX9_variables_21 : decode cX9_variables 21 = .ok (.iload_n 1, 1) := by decide +kernel
theorem dX9_variables_22 : decode cX9_variables 22 = .ok (.iaload, 1) := by decide +kernel
theorem dX9_variables_23 : decode cX9_variables 23 = .ok (.aload_n 0, 1) := by decide +kernel
theorem dX9_variables_24 : decode cX9_variables 24 = .ok (.getfield 16, 3) := by decide +kernel
theorem dX9_variables_27 : decode cX9_variables 27 = .ok (.iload_n 1, 1) := by decide +kernel
theorem dX9_variables_28 : decode cX9_variables 28 = .ok (.iaload, 1) := by decide +kernel
theorem dX9_variables_29 : decode cX9_variables 29 = .ok (.iadd, 1) := by decide +kernel
theorem dX9_variables_30 : decode cX9_variables 30 = .ok (.istore 5, 2) := by decide +kernel
theorem dX9_variables_32 : decode cX9_variables 32 = .ok (.iload 4, 2) := by decide +kernel
theorem dX9_variables_34 : decode cX9_variables 34 = .ok (.istore 6, 2) := by decide +kernel
theorem dX9_variables_36 : decode cX9_variables 36 = .ok (.iload 6, 2) := by decide +kernel
theorem dX9_variables_38 : decode cX9_variables 38 = .ok (.aload_n 0, 1) := by decide +kernel
theorem dX9_variables_39 : decode cX9_variables 39 = .ok (.getfield 28, 3) := by decide +kernel
theorem dX9_variables_42 : decode cX9_variables 42 = .ok (.iload 5, 2) := by decide +kernel
theorem dX9_variables_44 : decode cX9_variables 44 = .ok (.iaload, 1) := by decide +kernel
theorem dX9_variables_45 : decode cX9_variables 45 = .ok (.aload_n 0, 1) := by decide +kernel
theorem dX9_variables_46 : decode cX9_variables 46 = .ok (.getfield 31, 3) := by decide +kernel
theorem dX9_variables_49 : decode cX9_variables 49 = .ok (.iload 5, 2) := by decide +kernel
theorem dX9_variables_51 : decode cX9_variables 51 = .ok (.iaload, 1) := by decide +kernel
theorem dX9_variables_52 : decode cX9_variables 52 = .ok (.iadd, 1) := by decide +kernel
theorem dX9_variables_53 : decode cX9_variables 53 = .ok (.if_icmp .ge 60, 3) := by decide +kernel
theorem dX9_variables_56 : decode cX9_variables 56 = .ok (.aload_n 0, 1) := by decide +kernel
theorem dX9_variables_57 : decode cX9_variables 57 = .ok (.getfield 37, 3) := by decide +kernel
theorem dX9_variables_60 : decode cX9_variables 60 = .ok (.iload 6, 2) := by decide +kernel
theorem dX9_variables_62 : decode cX9_variables 62 = .ok (.iaload, 1) := by decide +kernel
theorem dX9_variables_63 : decode cX9_variables 63 = .ok (.bipush 100, 2) := by decide +kernel
theorem dX9_variables_65 : decode cX9_variables 65 = .ok (.if_icmp .lt 42, 3) := by decide +kernel
theorem dX9_variables_68 : decode cX9_variables 68 = .ok (.iload_n 2, 1) := by decide +kernel
theorem dX9_variables_69 : decode cX9_variables 69 = .ok (.aload_n 0, 1) := by decide +kernel
theorem dX9_variables_70 : decode cX9_variables 70 = .ok (.getfield 37, 3) := by decide +kernel
theorem dX9_variables_73 : decode cX9_variables 73 = .ok (.iload 6, 2) := by decide +kernel
theorem dX9_variables_75 : decode cX9_variables 75 = .ok (.iaload, 1) := by decide +kernel
theorem dX9_variables_76 : decode cX9_variables 76 = .ok (.bipush 100, 2) := by decide +kernel
theorem dX9_variables_78 : decode cX9_variables 78 = .ok (.isub, 1) := by decide +kernel
theorem dX9_variables_79 : decode cX9_variables 79 = .ok (.ishr, 1) := by decide +kernel
theorem dX9_variables_80 : decode cX9_variables 80 = .ok (.iconst 1, 1) := by decide +kernel
theorem dX9_variables_81 : decode cX9_variables 81 = .ok (.iand, 1) := by decide +kernel
theorem dX9_variables_82 : decode cX9_variables 82 = .ok (.iconst 1, 1) := by decide +kernel
theorem dX9_variables_83 : decode cX9_variables 83 = .ok (.if_icmp .ne 6, 3) := by decide +kernel
theorem dX9_variables_86 : decode cX9_variables 86 = .ok (.goto 21, 3) := by decide +kernel
theorem dX9_variables_89 : decode cX9_variables 89 = .ok (.iload_n 2, 1) := by decide +kernel
theorem dX9_variables_90 : decode cX9_variables 90 = .ok (.iconst 1, 1) := by decide +kernel
theorem dX9_variables_91 : decode cX9_variables 91 = .ok (.aload_n 0, 1) := by decide +kernel
theorem dX9_variables_92 : decode cX9_variables 92 = .ok (.getfield 37, 3) := by decide +kernel
theorem dX9_variables_95 : decode cX9_variables 95 = .ok (.iload 6, 2) := by decide +kernel
theorem dX9_variables_97 : decode cX9_variables 97 = .ok (.iaload, 1) := by decide +kernel
theorem dX9_variables_98 : decode cX9_variables 98 = .ok (.bipush 100, 2) := by decide +kernel
theorem dX9_variables_100 : decode cX9_variables 100 = .ok (.isub, 1) := by decide +kernel
theorem dX9_variables_101 : decode cX9_variables 101 = .ok (.ishl, 1) := by decide +kernel
theorem dX9_variables_102 : decode cX9_variables 102 = .ok (.ior, 1) := by decide +kernel
theorem dX9_variables_103 : decode cX9_variables 103 = .ok (.istore_n 2, 1) := by decide +kernel
theorem dX9_variables_104 : decode cX9_variables 104 = .ok (.iinc 3 1, 3) := by decide +kernel
theorem dX9_variables_107 : decode cX9_variables 107 = .ok (.iinc 6 1, 3) := by decide +kernel
theorem dX9_variables_110 : decode cX9_variables 110 = .ok (.goto (-74), 3) := by decide +kernel
theorem dX9_variables_113 : decode cX9_variables 113 = .ok (.iload_n 3, 1) := by decide +kernel
theorem dX9_variables_114 : decode cX9_variables 114 = .ok (.ireturn, 1) := by decide +kernel
theorem dX9_sizes_0 : decode cX9_sizes 0 = .ok (.iconst 0, 1) := by decide +kernel
theorem dX9_sizes_1 : decode cX9_sizes 1 = .ok (.istore_n 1, 1) := by decide +kernel
theorem dX9_sizes_2 : decode cX9_sizes 2 = .ok (.iload_n 1, 1) := by decide +kernel
theorem dX9_sizes_3 : decode cX9_sizes 3 = .ok (.aload_n 0, 1) := by decide +kernel
theorem dX9_sizes_4 : decode cX9_sizes 4 = .ok (.getfield 150, 3) := by decide +kernel
theorem dX9_sizes_7 : decode cX9_sizes 7 = .ok (.if_icmp .ge 46, 3) := by decide +kernel
theorem dX9_sizes_10 : decode cX9_sizes 10 = .ok (.iload_n 1, 1) := by decide +kernel
theorem dX9_sizes_11 : decode cX9_sizes 11 = .ok (.bipush 16, 2) := by decide +kernel
theorem dX9_sizes_13 : decode cX9_sizes 13 = .ok (.if_icmp .ge 22, 3) := by decide +kernel
theorem dX9_sizes_16 : decode cX9_sizes 16 = .ok (.aload_n 0, 1) := by decide +kernel
theorem dX9_sizes_17 : decode cX9_sizes 17 = .ok (.getfield 16, 3) := by decide +kernel
theorem dX9_sizes_20 : decode cX9_sizes 20 = .ok (.iload_n 1, 1) := by decide +kernel
theorem dX9_sizes_21 : decode cX9_sizes 21 = .ok (.iaload, 1) := by decide +kernel
theorem dX9_sizes_22 : decode cX9_sizes 22 = .ok (.iconst 5, 1) := by decide +kernel
theorem dX9_sizes_23 : decode cX9_sizes 23 = .ok (.if_icmp .gt 12, 3) := by decide +kernel
theorem dX9_sizes_26 : decode cX9_sizes 26 = .ok (.aload_n 0, 1) := by decide +kernel
theorem dX9_sizes_27 : decode cX9_sizes 27 = .ok (.iload_n 1, 1) := by decide +kernel
theorem dX9_sizes_28 : decode cX9_sizes 28 = .ok (.invokevirtual 159, 3) := by decide +kernel
theorem dX9_sizes_31 : decode cX9_sizes 31 = .ok (.iconst 4, 1) := by decide +kernel
theorem dX9_sizes_32 : decode cX9_sizes 32 = .ok (.if_icmp .le 15, 3) := by decide +kernel
theorem dX9_sizes_35 : decode cX9_sizes 35 = .ok (.aload_n 0, 1) := by decide +kernel
theorem dX9_sizes_36 : decode cX9_sizes 36 = .ok (.iconst 3, 1) := by decide +kernel
theorem dX9_sizes_37 : decode cX9_sizes 37 = .ok (.aload_n 0, 1) := by decide +kernel
theorem dX9_sizes_38 : decode cX9_sizes 38 = .ok (.getfield 19, 3) := by decide +kernel
theorem dX9_sizes_41 : decode cX9_sizes 41 = .ok (.iload_n 1, 1) := by decide +kernel
theorem dX9_sizes_42 : decode cX9_sizes 42 = .ok (.iaload, 1) := by decide +kernel
theorem dX9_sizes_43 : decode cX9_sizes 43 = .ok (.invokevirtual 127, 3) := by decide +kernel
theorem dX9_sizes_46 : decode cX9_sizes 46 = .ok (.ireturn, 1) := by decide +kernel
theorem dX9_sizes_47 : decode cX9_sizes 47 = .ok (.iinc 1 1, 3) := by decide +kernel
theorem dX9_sizes_50 : decode cX9_sizes 50 = .ok (.goto (-48), 3) := by decide +kernel
theorem dX9_sizes_53 : decode cX9_sizes 53 = .ok (.iconst 1, 1) := by decide +kernel
theorem dX9_sizes_54 : decode cX9_sizes 54 = .ok (.ireturn, 1) := by decide +kernel
theorem dX9_isBound_0 : decode cX9_isBound 0 = .ok (.aload_n 0, 1) := by decide +kernel
theorem dX9_isBound_1 : decode cX9_isBound 1 = .ok (.getfield 13, 3) := by decide +kernel
theorem dX9_isBound_4 : decode cX9_isBound 4 = .ok (.iload_n 1, 1) := by decide +kernel
theorem dX9_isBound_5 : decode cX9_isBound 5 = .ok (.iaload, 1) := by decide +kernel
theorem dX9_isBound_6 : decode cX9_isBound 6 = .ok (.iconst 1, 1) := by decide +kernel
theorem dX9_isBound_7 : decode cX9_isBound 7 = .ok (.iadd, 1) := by decide +kernel
theorem dX9_isBound_8 : decode cX9_isBound 8 = .ok (.istore_n 3, 1) := by decide +kernel
theorem dX9_isBound_9 : decode cX9_isBound 9 = .ok (.iload_n 3, 1) := by decide +kernel
theorem dX9_isBound_10 : decode cX9_isBound 10 = .ok (.aload_n 0, 1) := by decide +kernel
theorem dX9_isBound_11 : decode cX9_isBound 11 = .ok (.getfield 13, 3) := by decide +kernel
theorem dX9_isBound_14 : decode cX9_isBound 14 = .ok (.iload_n 1, 1) := by decide +kernel
theorem dX9_isBound_15 : decode cX9_isBound 15 = .ok (.iaload, 1) := by decide +kernel
theorem dX9_isBound_16 : decode cX9_isBound 16 = .ok (.aload_n 0, 1) := by decide +kernel
theorem dX9_isBound_17 : decode cX9_isBound 17 = .ok (.getfield 16, 3) := by decide +kernel
theorem dX9_isBound_20 : decode cX9_isBound 20 = .ok (.iload_n 1, 1) := by decide +kernel
theorem dX9_isBound_21 : decode cX9_isBound 21 = .ok (.iaload, 1) := by decide +kernel
theorem dX9_isBound_22 : decode cX9_isBound 22 = .ok (.iadd, 1) := by decide +kernel
theorem dX9_isBound_23 : decode cX9_isBound 23 = .ok (.if_icmp .gt 58, 3) := by decide +kernel
theorem dX9_isBound_26 : decode cX9_isBound 26 = .ok (.iconst 0, 1) := by decide +kernel
theorem dX9_isBound_27 : decode cX9_isBound 27 = .ok (.istore 4, 2) := by decide +kernel
theorem dX9_isBound_29 : decode cX9_isBound 29 = .ok (.iload 4, 2) := by decide +kernel
theorem dX9_isBound_31 : decode cX9_isBound 31 = .ok (.aload_n 0, 1) := by decide +kernel
theorem dX9_isBound_32 : decode cX9_isBound 32 = .ok (.getfield 31, 3) := by decide +kernel
theorem dX9_isBound_35 : decode cX9_isBound 35 = .ok (.iload_n 3, 1) := by decide +kernel
theorem dX9_isBound_36 : decode cX9_isBound 36 = .ok (.iaload, 1) := by decide +kernel
theorem dX9_isBound_37 : decode cX9_isBound 37 = .ok (.if_icmp .ge 38, 3) := by decide +kernel
theorem dX9_isBound_40 : decode cX9_isBound 40 = .ok (.aload_n 0, 1) := by decide +kernel
theorem dX9_isBound_41 : decode cX9_isBound 41 = .ok (.getfield 22, 3) := by decide +kernel
theorem dX9_isBound_44 : decode cX9_isBound 44 = .ok (.iload_n 3, 1) := by decide +kernel
theorem dX9_isBound_45 : decode cX9_isBound 45 = .ok (.iaload, 1) := by decide +kernel
theorem dX9_isBound_46 : decode cX9_isBound 46 = .ok (.ifCond .ne 29, 3) := by decide +kernel
theorem dX9_isBound_49 : decode cX9_isBound 49 = .ok (.aload_n 0, 1) := by decide +kernel
theorem dX9_isBound_50 : decode cX9_isBound 50 = .ok (.getfield 37, 3) := by decide +kernel
theorem dX9_isBound_53 : decode cX9_isBound 53 = .ok (.aload_n 0, 1) := by decide +kernel
theorem dX9_isBound_54 : decode cX9_isBound 54 = .ok (.getfield 28, 3) := by decide +kernel
theorem dX9_isBound_57 : decode cX9_isBound 57 = .ok (.iload_n 3, 1) := by decide +kernel
theorem dX9_isBound_58 : decode cX9_isBound 58 = .ok (.iaload, 1) := by decide +kernel
theorem dX9_isBound_59 : decode cX9_isBound 59 = .ok (.iload 4, 2) := by decide +kernel
theorem dX9_isBound_61 : decode cX9_isBound 61 = .ok (.iadd, 1) := by decide +kernel
theorem dX9_isBound_62 : decode cX9_isBound 62 = .ok (.iaload, 1) := by decide +kernel
theorem dX9_isBound_63 : decode cX9_isBound 63 = .ok (.iload_n 2, 1) := by decide +kernel
theorem dX9_isBound_64 : decode cX9_isBound 64 = .ok (.if_icmp .ne 5, 3) := by decide +kernel
theorem dX9_isBound_67 : decode cX9_isBound 67 = .ok (.iconst 1, 1) := by decide +kernel
theorem dX9_isBound_68 : decode cX9_isBound 68 = .ok (.ireturn, 1) := by decide +kernel
theorem dX9_isBound_69 : decode cX9_isBound 69 = .ok (.iinc 4 1, 3) := by decide +kernel
theorem dX9_isBound_72 : decode cX9_isBound 72 = .ok (.goto (-43), 3) := by decide +kernel
theorem dX9_isBound_75 : decode cX9_isBound 75 = .ok (.iinc 3 1, 3) := by decide +kernel
theorem dX9_isBound_78 : decode cX9_isBound 78 = .ok (.goto (-69), 3) := by decide +kernel
theorem dX9_isBound_81 : decode cX9_isBound 81 = .ok (.iconst 0, 1) := by decide +kernel
theorem dX9_isBound_82 : decode cX9_isBound 82 = .ok (.ireturn, 1) := by decide +kernel
theorem dX9_bounds_0 : decode cX9_bounds 0 = .ok (.iconst 0, 1) := by decide +kernel
theorem dX9_bounds_1 : decode cX9_bounds 1 = .ok (.istore_n 1, 1) := by decide +kernel
theorem dX9_bounds_2 : decode cX9_bounds 2 = .ok (.iload_n 1, 1) := by decide +kernel
theorem dX9_bounds_3 : decode cX9_bounds 3 = .ok (.aload_n 0, 1) := by decide +kernel
theorem dX9_bounds_4 : decode cX9_bounds 4 = .ok (.getfield 150, 3) := by decide +kernel
theorem dX9_bounds_7 : decode cX9_bounds 7 = .ok (.if_icmp .ge 123, 3) := by decide +kernel
theorem dX9_bounds_10 : decode cX9_bounds 10 = .ok (.aload_n 0, 1) := by decide +kernel
theorem dX9_bounds_11 : decode cX9_bounds 11 = .ok (.getfield 13, 3) := by decide +kernel
theorem dX9_bounds_14 : decode cX9_bounds 14 = .ok (.iload_n 1, 1) := by decide +kernel
theorem dX9_bounds_15 : decode cX9_bounds 15 = .ok (.iaload, 1) := by decide +kernel
theorem dX9_bounds_16 : decode cX9_bounds 16 = .ok (.istore_n 2, 1) := by decide +kernel
theorem dX9_bounds_17 : decode cX9_bounds 17 = .ok (.iload_n 2, 1) := by decide +kernel
theorem dX9_bounds_18 : decode cX9_bounds 18 = .ok (.aload_n 0, 1) := by decide +kernel
theorem dX9_bounds_19 : decode cX9_bounds 19 = .ok (.getfield 13, 3) := by decide +kernel
theorem dX9_bounds_22 : decode cX9_bounds 22 = .ok (.iload_n 1, 1) := by decide +kernel
theorem dX9_bounds_23 : decode cX9_bounds 23 = .ok (.iaload, 1) := by decide +kernel
theorem dX9_bounds_24 : decode cX9_bounds 24 = .ok (.aload_n 0, 1) := by decide +kernel
theorem dX9_bounds_25 : decode cX9_bounds 25 = .ok (.getfield 16, 3) := by decide +kernel
theorem dX9_bounds_28 : decode cX9_bounds 28 = .ok (.iload_n 1, 1) := by decide +kernel
theorem dX9_bounds_29 : decode cX9_bounds 29 = .ok (.iaload, 1) := by decide +kernel
theorem dX9_bounds_30 : decode cX9_bounds 30 = .ok (.iadd, 1) := by decide +kernel
theorem dX9_bounds_31 : decode cX9_bounds 31 = .ok (.if_icmp .gt 93, 3) := by decide +kernel
theorem dX9_bounds_34 : decode cX9_bounds 34 = .ok (.iload_n 2, 1) := by decide +kernel
theorem dX9_bounds_35 : decode cX9_bounds 35 = .ok (.aload_n 0, 1) := by decide +kernel
theorem dX9_bounds_36 : decode cX9_bounds 36 = .ok (.getfield 13, 3) := by decide +kernel
theorem dX9_bounds_39 : decode cX9_bounds 39 = .ok (.iload_n 1, 1) := by decide +kernel
theorem dX9_bounds_40 : decode cX9_bounds 40 = .ok (.iaload, 1) := by decide +kernel
theorem dX9_bounds_41 : decode cX9_bounds 41 = .ok (.if_icmp .le 15, 3) := by decide +kernel
theorem dX9_bounds_44 : decode cX9_bounds 44 = .ok (.aload_n 0, 1) := by decide +kernel
theorem dX9_bounds_45 : decode cX9_bounds 45 = .ok (.getfield 22, 3) := by decide +kernel
theorem dX9_bounds_48 : decode cX9_bounds 48 = .ok (.iload_n 2, 1) := by decide +kernel
theorem dX9_bounds_49 : decode cX9_bounds 49 = .ok (.iaload, 1) := by decide +kernel
theorem dX9_bounds_50 : decode cX9_bounds 50 = .ok (.ifCond .ne 6, 3) := by decide +kernel
theorem dX9_bounds_53 : decode cX9_bounds 53 = .ok (.goto 65, 3) := by decide +kernel
theorem dX9_bounds_56 : decode cX9_bounds 56 = .ok (.iconst 0, 1) := by decide +kernel
theorem dX9_bounds_57 : decode cX9_bounds 57 = .ok (.istore_n 3, 1) := by decide +kernel
theorem dX9_bounds_58 : decode cX9_bounds 58 = .ok (.iload_n 3, 1) := by decide +kernel
theorem dX9_bounds_59 : decode cX9_bounds 59 = .ok (.aload_n 0, 1) := by decide +kernel
theorem dX9_bounds_60 : decode cX9_bounds 60 = .ok (.getfield 31, 3) := by decide +kernel
theorem dX9_bounds_63 : decode cX9_bounds 63 = .ok (.iload_n 2, 1) := by decide +kernel
theorem dX9_bounds_64 : decode cX9_bounds 64 = .ok (.iaload, 1) := by decide +kernel
theorem dX9_bounds_65 : decode cX9_bounds 65 = .ok (.if_icmp .ge 53, 3) := by decide +kernel
theorem dX9_bounds_68 : decode cX9_bounds 68 = .ok (.aload_n 0, 1) := by decide +kernel
theorem dX9_bounds_69 : decode cX9_bounds 69 = .ok (.getfield 37, 3) := by decide +kernel
theorem dX9_bounds_72 : decode cX9_bounds 72 = .ok (.aload_n 0, 1) := by decide +kernel
theorem dX9_bounds_73 : decode cX9_bounds 73 = .ok (.getfield 28, 3) := by decide +kernel
theorem dX9_bounds_76 : decode cX9_bounds 76 = .ok (.iload_n 2, 1) := by decide +kernel
theorem dX9_bounds_77 : decode cX9_bounds 77 = .ok (.iaload, 1) := by decide +kernel
theorem dX9_bounds_78 : decode cX9_bounds 78 = .ok (.iload_n 3, 1) := by decide +kernel
theorem dX9_bounds_79 : decode cX9_bounds 79 = .ok (.iadd, 1) := by decide +kernel
theorem dX9_bounds_80 : decode cX9_bounds 80 = .ok (.iaload, 1) := by decide +kernel
theorem dX9_bounds_81 : decode cX9_bounds 81 = .ok (.istore 4, 2) := by decide +kernel
theorem dX9_bounds_83 : decode cX9_bounds 83 = .ok (.iload 4, 2) := by decide +kernel
theorem dX9_bounds_85 : decode cX9_bounds 85 = .ok (.bipush 100, 2) := by decide +kernel
theorem dX9_bounds_87 : decode cX9_bounds 87 = .ok (.if_icmp .lt 25, 3) := by decide +kernel
theorem dX9_bounds_90 : decode cX9_bounds 90 = .ok (.aload_n 0, 1) := by decide +kernel
theorem dX9_bounds_91 : decode cX9_bounds 91 = .ok (.iload_n 1, 1) := by decide +kernel
theorem dX9_bounds_92 : decode cX9_bounds 92 = .ok (.iload 4, 2) := by decide +kernel
theorem dX9_bounds_94 : decode cX9_bounds 94 = .ok (.invokevirtual 163, 3) := by decide +kernel
theorem dX9_bounds_97 : decode cX9_bounds 97 = .ok (.ifCond .ne 15, 3) := by decide +kernel
theorem dX9_bounds_100 : decode cX9_bounds 100 = .ok (.aload_n 0, 1) := by decide +kernel
theorem dX9_bounds_101 : decode cX9_bounds 101 = .ok (.iconst 4, 1) := by decide +kernel
theorem dX9_bounds_102 : decode cX9_bounds 102 = .ok (.aload_n 0, 1) := by decide +kernel
theorem dX9_bounds_103 : decode cX9_bounds 103 = .ok (.getfield 19, 3) := by decide +kernel
theorem dX9_bounds_106 : decode cX9_bounds 106 = .ok (.iload_n 1, 1) := by decide +kernel
theorem dX9_bounds_107 : decode cX9_bounds 107 = .ok (.iaload, 1) := by decide +kernel
theorem dX9_bounds_108 : decode cX9_bounds 108 = .ok (.invokevirtual 127, 3) := by decide +kernel
theorem dX9_bounds_111 : decode cX9_bounds 111 = .ok (.ireturn, 1) := by decide +kernel
theorem dX9_bounds_112 : decode cX9_bounds 112 = .ok (.iinc 3 1, 3) := by decide +kernel
theorem dX9_bounds_115 : decode cX9_bounds 115 = .ok (.goto (-57), 3) := by decide +kernel
theorem dX9_bounds_118 : decode cX9_bounds 118 = .ok (.iinc 2 1, 3) := by decide +kernel
theorem dX9_bounds_121 : decode cX9_bounds 121 = .ok (.goto (-104), 3) := by decide +kernel
theorem dX9_bounds_124 : decode cX9_bounds 124 = .ok (.iinc 1 1, 3) := by decide +kernel
theorem dX9_bounds_127 : decode cX9_bounds 127 = .ok (.goto (-125), 3) := by decide +kernel
theorem dX9_bounds_130 : decode cX9_bounds 130 = .ok (.iconst 1, 1) := by decide +kernel
theorem dX9_bounds_131 : decode cX9_bounds 131 = .ok (.ireturn, 1) := by decide +kernel
theorem dX9_findDepends_0 : decode cX9_findDepends 0 = .ok (.iconst 0, 1) := by decide +kernel
theorem dX9_findDepends_1 : decode cX9_findDepends 1 = .ok (.istore_n 1, 1) := by decide +kernel
theorem dX9_findDepends_2 : decode cX9_findDepends 2 = .ok (.iload_n 1, 1) := by decide +kernel
theorem dX9_findDepends_3 : decode cX9_findDepends 3 = .ok (.bipush 100, 2) := by decide +kernel
theorem dX9_findDepends_5 : decode cX9_findDepends 5 = .ok (.if_icmp .ge 31, 3) := by decide +kernel
theorem dX9_findDepends_8 : decode cX9_findDepends 8 = .ok (.aload_n 0, 1) := by decide +kernel
theorem dX9_findDepends_9 : decode cX9_findDepends 9 = .ok (.getfield 40, 3) := by decide +kernel
theorem dX9_findDepends_12 : decode cX9_findDepends 12 = .ok (.iload_n 1, 1) := by decide +kernel
theorem dX9_findDepends_13 : decode cX9_findDepends 13 = .ok (.iload_n 1, 1) := by decide +kernel
theorem dX9_findDepends_14 : decode cX9_findDepends 14 = .ok (.bipush 10, 2) := by decide +kernel
theorem dX9_findDepends_16 : decode cX9_findDepends 16 = .ok (.idiv, 1) := by decide +kernel
theorem dX9_findDepends_17 : decode cX9_findDepends 17 = .ok (.iload_n 1, 1) := by decide +kernel
theorem dX9_findDepends_18 : decode cX9_findDepends 18 = .ok (.bipush 10, 2) := by decide +kernel
theorem dX9_findDepends_20 : decode cX9_findDepends 20 = .ok (.irem, 1) := by decide +kernel
theorem dX9_findDepends_21 : decode cX9_findDepends 21 = .ok (.if_icmp .ne 7, 3) := by decide +kernel
theorem dX9_findDepends_24 : decode cX9_findDepends 24 = .ok (.iconst 1, 1) := by decide +kernel
theorem dX9_findDepends_25 : decode cX9_findDepends 25 = .ok (.goto 4, 3) := by decide +kernel
theorem dX9_findDepends_28 : decode cX9_findDepends 28 = .ok (.iconst 0, 1) := by decide +kernel
theorem dX9_findDepends_29 : decode cX9_findDepends 29 = .ok (.bastore, 1) := by decide +kernel
theorem dX9_findDepends_30 : decode cX9_findDepends 30 = .ok (.iinc 1 1, 3) := by decide +kernel
theorem dX9_findDepends_33 : decode cX9_findDepends 33 = .ok (.goto (-31), 3) := by decide +kernel
theorem dX9_findDepends_36 : decode cX9_findDepends 36 = .ok (.iconst 1, 1) := by decide +kernel
theorem dX9_findDepends_37 : decode cX9_findDepends 37 = .ok (.istore_n 1, 1) := by decide +kernel
theorem dX9_findDepends_38 : decode cX9_findDepends 38 = .ok (.iload_n 1, 1) := by decide +kernel
theorem dX9_findDepends_39 : decode cX9_findDepends 39 = .ok (.ifCond .eq 149, 3) := by decide +kernel
theorem dX9_findDepends_42 : decode cX9_findDepends 42 = .ok (.iconst 0, 1) := by decide +kernel
theorem dX9_findDepends_43 : decode cX9_findDepends 43 = .ok (.istore_n 1, 1) := by decide +kernel
theorem dX9_findDepends_44 : decode cX9_findDepends 44 = .ok (.iconst 0, 1) := by decide +kernel
theorem dX9_findDepends_45 : decode cX9_findDepends 45 = .ok (.istore_n 2, 1) := by decide +kernel
theorem dX9_findDepends_46 : decode cX9_findDepends 46 = .ok (.iload_n 2, 1) := by decide +kernel
theorem dX9_findDepends_47 : decode cX9_findDepends 47 = .ok (.aload_n 0, 1) := by decide +kernel
theorem dX9_findDepends_48 : decode cX9_findDepends 48 = .ok (.getfield 150, 3) := by decide +kernel
theorem dX9_findDepends_51 : decode cX9_findDepends 51 = .ok (.if_icmp .ge 134, 3) := by decide +kernel
theorem dX9_findDepends_54 : decode cX9_findDepends 54 = .ok (.aload_n 0, 1) := by decide +kernel
theorem dX9_findDepends_55 : decode cX9_findDepends 55 = .ok (.getfield 25, 3) := by decide +kernel
theorem dX9_findDepends_58 : decode cX9_findDepends 58 = .ok (.aload_n 0, 1) := by decide +kernel
theorem dX9_findDepends_59 : decode cX9_findDepends 59 = .ok (.getfield 13, 3) := by decide +kernel
theorem dX9_findDepends_62 : decode cX9_findDepends 62 = .ok (.iload_n 2, 1) := by decide +kernel
theorem dX9_findDepends_63 : decode cX9_findDepends 63 = .ok (.iaload, 1) := by decide +kernel
theorem dX9_findDepends_64 : decode cX9_findDepends 64 = .ok (.iaload, 1) := by decide +kernel
theorem dX9_findDepends_65 : decode cX9_findDepends 65 = .ok (.istore_n 3, 1) := by decide +kernel
theorem dX9_findDepends_66 : decode cX9_findDepends 66 = .ok (.aload_n 0, 1) := by decide +kernel
theorem dX9_findDepends_67 : decode cX9_findDepends 67 = .ok (.getfield 13, 3) := by decide +kernel
theorem dX9_findDepends_70 : decode cX9_findDepends 70 = .ok (.iload_n 2, 1) := by decide +kernel
theorem dX9_findDepends_71 : decode cX9_findDepends 71 = .ok (.iaload, 1) := by decide +kernel
theorem dX9_findDepends_72 : decode cX9_findDepends 72 = .ok (.iconst 1, 1) := by decide +kernel
theorem dX9_findDepends_73 : decode cX9_findDepends 73 = .ok (.iadd, 1) := by decide +kernel
theorem dX9_findDepends_74 : decode cX9_findDepends 74 = .ok (.istore 4, 2) := by decide +kernel
theorem dX9_findDepends_76 : decode cX9_findDepends 76 = .ok (.iload 4, 2) := by decide +kernel
theorem dX9_findDepends_78 : decode cX9_findDepends 78 = .ok (.aload_n 0, 1) := by decide +kernel
theorem dX9_findDepends_79 : decode cX9_findDepends 79 = .ok (.getfield 13, 3) := by decide +kernel
theorem dX9_findDepends_82 : decode cX9_findDepends 82 = .ok (.iload_n 2, 1) := by decide +kernel
theorem dX9_findDepends_83 : decode cX9_findDepends 83 = .ok (.iaload, 1) := by decide +kernel
theorem dX9_findDepends_84 : decode cX9_findDepends 84 = .ok (.aload_n 0, 1) := by decide +kernel
theorem dX9_findDepends_85 : decode cX9_findDepends 85 = .ok (.getfield 16, 3) := by decide +kernel
theorem dX9_findDepends_88 : decode cX9_findDepends 88 = .ok (.iload_n 2, 1) := by decide +kernel
theorem dX9_findDepends_89 : decode cX9_findDepends 89 = .ok (.iaload, 1) := by decide +kernel
theorem dX9_findDepends_90 : decode cX9_findDepends 90 = .ok (.iadd, 1) := by decide +kernel
theorem dX9_findDepends_91 : decode cX9_findDepends 91 = .ok (.if_icmp .gt 88, 3) := by decide +kernel
theorem dX9_findDepends_94 : decode cX9_findDepends 94 = .ok (.iconst 0, 1) := by decide +kernel
theorem dX9_findDepends_95 : decode cX9_findDepends 95 = .ok (.istore 5, 2) := by decide +kernel
theorem dX9_findDepends_97 : decode cX9_findDepends 97 = .ok (.iload 5, 2) := by decide +kernel
theorem dX9_findDepends_99 : decode cX9_findDepends 99 = .ok (.bipush 10, 2) := by decide +kernel
theorem dX9_findDepends_101 : decode cX9_findDepends 101 = .ok (.if_icmp .ge 72, 3) := by decide +kernel
theorem dX9_findDepends_104 : decode cX9_findDepends 104 = .ok (.aload_n 0, 1) := by decide +kernel
theorem dX9_findDepends_105 : decode cX9_findDepends 105 = .ok (.iload 4, 2) := by decide +kernel
theorem dX9_findDepends_107 : decode cX9_findDepends 107 = .ok (.invokevirtual 156, 3) := by decide +kernel
theorem dX9_findDepends_110 : decode cX9_findDepends 110 = .ok (.ifCond .eq 63, 3) := by decide +kernel
theorem dX9_findDepends_113 : decode cX9_findDepends 113 = .ok (.aload_n 0, 1) := by decide +kernel
theorem dX9_findDepends_114 : decode cX9_findDepends 114 = .ok (.getfield 40, 3) := by decide +kernel
theorem dX9_findDepends_117 : decode cX9_findDepends 117 = .ok (.bipush 10, 2) := by decide +kernel
theorem dX9_findDepends_119 : decode cX9_findDepends 119 = .ok (.aload_n 0, 1) := by decide +kernel
theorem dX9_findDepends_120 : decode cX9_findDepends 120 = .ok (.getfield 25, 3) := by decide +kernel
theorem dX9_findDepends_123 : decode cX9_findDepends 123 = .ok (.iload 4, 2) := by decide +kernel
theorem dX9_findDepends_125 : decode cX9_findDepends 125 = .ok (.iaload, 1) := by decide +kernel
theorem dX9_findDepends_126 : decode cX9_findDepends 126 = .ok (.imul, 1) := by decide +kernel
theorem dX9_findDepends_127 : decode cX9_findDepends 127 = .ok (.iload 5, 2) := by decide +kernel
theorem dX9_findDepends_129 : decode cX9_findDepends 129 = .ok (.iadd, 1) := by decide +kernel
theorem dX9_findDepends_130 : decode cX9_findDepends 130 = .ok (.baload, 1) := by decide +kernel
theorem dX9_findDepends_131 : decode cX9_findDepends 131 = .ok (.ifCond .eq 36, 3) := by decide +kernel
theorem dX9_findDepends_134 : decode cX9_findDepends 134 = .ok (.aload_n 0, 1) := by decide +kernel
theorem dX9_findDepends_135 : decode cX9_findDepends 135 = .ok (.getfield 40, 3) := by decide +kernel
theorem dX9_findDepends_138 : decode cX9_findDepends 138 = .ok (.bipush 10, 2) := by decide +kernel
theorem dX9_findDepends_140 : decode cX9_findDepends 140 = .ok (.iload_n 3, 1) := by decide +kernel
theorem dX9_findDepends_141 : decode cX9_findDepends 141 = .ok (.imul, 1) := by decide +kernel
theorem dX9_findDepends_142 : decode cX9_findDepends 142 = .ok (.iload 5, 2) := by decide +kernel
theorem dX9_findDepends_144 : decode cX9_findDepends 144 = .ok (.iadd, 1) := by decide +kernel
theorem dX9_findDepends_145 : decode cX9_findDepends 145 = .ok (.baload, 1) := by decide +kernel
theorem dX9_findDepends_146 : decode cX9_findDepends 146 = .ok (.ifCond .eq 6, 3) := by decide +kernel
theorem dX9_findDepends_149 : decode cX9_findDepends 149 = .ok (.goto 18, 3) := by decide +kernel
theorem dX9_findDepends_152 : decode cX9_findDepends 152 = .ok (.aload_n 0, 1) := by decide +kernel
theorem dX9_findDepends_153 : decode cX9_findDepends 153 = .ok (.getfield 40, 3) := by decide +kernel
theorem dX9_findDepends_156 : decode cX9_findDepends 156 = .ok (.bipush 10, 2) := by decide +kernel
theorem dX9_findDepends_158 : decode cX9_findDepends 158 = .ok (.iload_n 3, 1) := by decide +kernel
theorem dX9_findDepends_159 : decode cX9_findDepends 159 = .ok (.imul, 1) := by decide +kernel
theorem dX9_findDepends_160 : decode cX9_findDepends 160 = .ok (.iload 5, 2) := by decide +kernel
theorem dX9_findDepends_162 : decode cX9_findDepends 162 = .ok (.iadd, 1) := by decide +kernel
theorem dX9_findDepends_163 : decode cX9_findDepends 163 = .ok (.iconst 1, 1) := by decide +kernel
theorem dX9_findDepends_164 : decode cX9_findDepends 164 = .ok (.bastore, 1) := by decide +kernel
theorem dX9_findDepends_165 : decode cX9_findDepends 165 = .ok (.iconst 1, 1) := by decide +kernel
theorem dX9_findDepends_166 : decode cX9_findDepends 166 = .ok (.istore_n 1, 1) := by decide +kernel
theorem dX9_findDepends_167 : decode cX9_findDepends 167 = .ok (.iinc 5 1, 3) := by decide +kernel
theorem dX9_findDepends_170 : decode cX9_findDepends 170 = .ok (.goto (-73), 3) := by decide +kernel
theorem dX9_findDepends_173 : decode cX9_findDepends 173 = .ok (.iinc 4 1, 3) := by decide +kernel
theorem dX9_findDepends_176 : decode cX9_findDepends 176 = .ok (.goto (-100), 3) := by decide +kernel
theorem dX9_findDepends_179 : decode cX9_findDepends 179 = .ok (.iinc 2 1, 3) := by decide +kernel
theorem dX9_findDepends_182 : decode cX9_findDepends 182 = .ok (.goto (-136), 3) := by decide +kernel
theorem dX9_findDepends_185 : decode cX9_findDepends 185 = .ok (.goto (-147), 3) := by decide +kernel
theorem dX9_findDepends_188 : decode cX9_findDepends 188 = .ok (.return_, 1) := by decide +kernel
theorem dX9_layers_0 : decode cX9_layers 0 = .ok (.aload_n 0, 1) := by decide +kernel
theorem dX9_layers_1 : decode cX9_layers 1 = .ok (.invokevirtual 166, 3) := by decide +kernel
theorem dX9_layers_4 : decode cX9_layers 4 = .ok (.iconst 0, 1) := by decide +kernel
theorem dX9_layers_5 : decode cX9_layers 5 = .ok (.istore_n 1, 1) := by decide +kernel
theorem dX9_layers_6 : decode cX9_layers 6 = .ok (.iload_n 1, 1) := by decide +kernel
theorem dX9_layers_7 : decode cX9_layers 7 = .ok (.aload_n 0, 1) := by decide +kernel
theorem dX9_layers_8 : decode cX9_layers 8 = .ok (.getfield 150, 3) := by decide +kernel
theorem dX9_layers_11 : decode cX9_layers 11 = .ok (.if_icmp .ge 92, 3) := by decide +kernel
theorem dX9_layers_14 : decode cX9_layers 14 = .ok (.aload_n 0, 1) := by decide +kernel
theorem dX9_layers_15 : decode cX9_layers 15 = .ok (.getfield 13, 3) := by decide +kernel
theorem dX9_layers_18 : decode cX9_layers 18 = .ok (.iload_n 1, 1) := by decide +kernel
theorem dX9_layers_19 : decode cX9_layers 19 = .ok (.iaload, 1) := by decide +kernel
theorem dX9_layers_20 : decode cX9_layers 20 = .ok (.iconst 1, 1) := by decide +kernel
theorem dX9_layers_21 : decode cX9_layers 21 = .ok (.iadd, 1) := by decide +kernel
theorem dX9_layers_22 : decode cX9_layers 22 = .ok (.istore_n 2, 1) := by decide +kernel
theorem dX9_layers_23 : decode cX9_layers 23 = .ok (.iload_n 2, 1) := by decide +kernel
theorem dX9_layers_24 : decode cX9_layers 24 = .ok (.aload_n 0, 1) := by decide +kernel
theorem dX9_layers_25 : decode cX9_layers 25 = .ok (.getfield 13, 3) := by decide +kernel
theorem dX9_layers_28 : decode cX9_layers 28 = .ok (.iload_n 1, 1) := by decide +kernel
theorem dX9_layers_29 : decode cX9_layers 29 = .ok (.iaload, 1) := by decide +kernel
theorem dX9_layers_30 : decode cX9_layers 30 = .ok (.aload_n 0, 1) := by decide +kernel
theorem dX9_layers_31 : decode cX9_layers 31 = .ok (.getfield 16, 3) := by decide +kernel
theorem dX9_layers_34 : decode cX9_layers 34 = .ok (.iload_n 1, 1) := by decide +kernel
theorem dX9_layers_35 : decode cX9_layers 35 = .ok (.iaload, 1) := by decide +kernel
theorem dX9_layers_36 : decode cX9_layers 36 = .ok (.iadd, 1) := by decide +kernel
theorem dX9_layers_37 : decode cX9_layers 37 = .ok (.if_icmp .gt 60, 3) := by decide +kernel
theorem dX9_layers_40 : decode cX9_layers 40 = .ok (.aload_n 0, 1) := by decide +kernel
theorem dX9_layers_41 : decode cX9_layers 41 = .ok (.getfield 22, 3) := by decide +kernel
theorem dX9_layers_44 : decode cX9_layers 44 = .ok (.iload_n 2, 1) := by decide +kernel
theorem dX9_layers_45 : decode cX9_layers 45 = .ok (.iaload, 1) := by decide +kernel
theorem dX9_layers_46 : decode cX9_layers 46 = .ok (.iconst 1, 1) := by decide +kernel
theorem dX9_layers_47 : decode cX9_layers 47 = .ok (.if_icmp .ne 44, 3) := by decide +kernel
theorem dX9_layers_50 : decode cX9_layers 50 = .ok (.aload_n 0, 1) := by decide +kernel
theorem dX9_layers_51 : decode cX9_layers 51 = .ok (.getfield 40, 3) := by decide +kernel
theorem dX9_layers_54 : decode cX9_layers 54 = .ok (.bipush 10, 2) := by decide +kernel
theorem dX9_layers_56 : decode cX9_layers 56 = .ok (.aload_n 0, 1) := by decide +kernel
theorem dX9_layers_57 : decode cX9_layers 57 = .ok (.getfield 25, 3) := by decide +kernel
theorem dX9_layers_60 : decode cX9_layers 60 = .ok (.iload_n 2, 1) := by decide +kernel
theorem dX9_layers_61 : decode cX9_layers 61 = .ok (.iaload, 1) := by decide +kernel
theorem dX9_layers_62 : decode cX9_layers 62 = .ok (.imul, 1) := by decide +kernel
theorem dX9_layers_63 : decode cX9_layers 63 = .ok (.aload_n 0, 1) := by decide +kernel
theorem dX9_layers_64 : decode cX9_layers 64 = .ok (.getfield 25, 3) := by decide +kernel
theorem dX9_layers_67 : decode cX9_layers 67 = .ok (.aload_n 0, 1) := by decide +kernel
theorem dX9_layers_68 : decode cX9_layers 68 = .ok (.getfield 13, 3) := by decide +kernel
theorem dX9_layers_71 : decode cX9_layers 71 = .ok (.iload_n 1, 1) := by decide +kernel
theorem dX9_layers_72 : decode cX9_layers 72 = .ok (.iaload, 1) := by decide +kernel
theorem dX9_layers_73 : decode cX9_layers 73 = .ok (.iaload, 1) := by decide +kernel
theorem dX9_layers_74 : decode cX9_layers 74 = .ok (.iadd, 1) := by decide +kernel
theorem dX9_layers_75 : decode cX9_layers 75 = .ok (.baload, 1) := by decide +kernel
theorem dX9_layers_76 : decode cX9_layers 76 = .ok (.ifCond .eq 15, 3) := by decide +kernel
theorem dX9_layers_79 : decode cX9_layers 79 = .ok (.aload_n 0, 1) := by decide +kernel
theorem dX9_layers_80 : decode cX9_layers 80 = .ok (.iconst 5, 1) := by decide +kernel
theorem dX9_layers_81 : decode cX9_layers 81 = .ok (.aload_n 0, 1) := by decide +kernel
theorem dX9_layers_82 : decode cX9_layers 82 = .ok (.getfield 34, 3) := by decide +kernel
theorem dX9_layers_85 : decode cX9_layers 85 = .ok (.iload_n 2, 1) := by decide +kernel
theorem dX9_layers_86 : decode cX9_layers 86 = .ok (.iaload, 1) := by decide +kernel
theorem dX9_layers_87 : decode cX9_layers 87 = .ok (.invokevirtual 127, 3) := by decide +kernel
theorem dX9_layers_90 : decode cX9_layers 90 = .ok (.ireturn, 1) := by decide +kernel
theorem dX9_layers_91 : decode cX9_layers 91 = .ok (.iinc 2 1, 3) := by decide +kernel
theorem dX9_layers_94 : decode cX9_layers 94 = .ok (.goto (-71), 3) := by decide +kernel
theorem dX9_layers_97 : decode cX9_layers 97 = .ok (.iinc 1 1, 3) := by decide +kernel
theorem dX9_layers_100 : decode cX9_layers 100 = .ok (.goto (-94), 3) := by decide +kernel
theorem dX9_layers_103 : decode cX9_layers 103 = .ok (.iconst 1, 1) := by decide +kernel
theorem dX9_layers_104 : decode cX9_layers 104 = .ok (.ireturn, 1) := by decide +kernel
theorem dX9_read_0 : decode cX9_read 0 = .ok (.aload_n 0, 1) := by decide +kernel
theorem dX9_read_1 : decode cX9_read 1 = .ok (.iconst 0, 1) := by decide +kernel
theorem dX9_read_2 : decode cX9_read 2 = .ok (.putfield 98, 3) := by decide +kernel
theorem dX9_read_5 : decode cX9_read 5 = .ok (.aload_n 0, 1) := by decide +kernel
theorem dX9_read_6 : decode cX9_read 6 = .ok (.iconst 0, 1) := by decide +kernel
theorem dX9_read_7 : decode cX9_read 7 = .ok (.putfield 150, 3) := by decide +kernel
theorem dX9_read_10 : decode cX9_read 10 = .ok (.aload_n 0, 1) := by decide +kernel
theorem dX9_read_11 : decode cX9_read 11 = .ok (.iconst 0, 1) := by decide +kernel
theorem dX9_read_12 : decode cX9_read 12 = .ok (.putfield 131, 3) := by decide +kernel
theorem dX9_read_15 : decode cX9_read 15 = .ok (.aload_n 0, 1) := by decide +kernel
theorem dX9_read_16 : decode cX9_read 16 = .ok (.iconst 0, 1) := by decide +kernel
theorem dX9_read_17 : decode cX9_read 17 = .ok (.putfield 118, 3) := by decide +kernel
theorem dX9_read_20 : decode cX9_read 20 = .ok (.aload_n 0, 1) := by decide +kernel
theorem dX9_read_21 : decode cX9_read 21 = .ok (.invokevirtual 101, 3) := by decide +kernel
theorem dX9_read_24 : decode cX9_read 24 = .ok (.aload_n 0, 1) := by decide +kernel
theorem dX9_read_25 : decode cX9_read 25 = .ok (.getfield 98, 3) := by decide +kernel
theorem dX9_read_28 : decode cX9_read 28 = .ok (.aload_n 0, 1) := by decide +kernel
theorem dX9_read_29 : decode cX9_read 29 = .ok (.getfield 93, 3) := by decide +kernel
theorem dX9_read_32 : decode cX9_read 32 = .ok (.if_icmp .ge 12, 3) := by decide +kernel
theorem dX9_read_35 : decode cX9_read 35 = .ok (.aload_n 0, 1) := by decide +kernel
theorem dX9_read_36 : decode cX9_read 36 = .ok (.invokevirtual 169, 3) := by decide +kernel
theorem dX9_read_39 : decode cX9_read 39 = .ok (.ifCond .ne (-15), 3) := by decide +kernel
theorem dX9_read_42 : decode cX9_read 42 = .ok (.iconst 0, 1) := by decide +kernel
theorem dX9_read_43 : decode cX9_read 43 = .ok (.ireturn, 1) := by decide +kernel
theorem dX9_read_44 : decode cX9_read 44 = .ok (.aload_n 0, 1) := by decide +kernel
theorem dX9_read_45 : decode cX9_read 45 = .ok (.invokevirtual 172, 3) := by decide +kernel
theorem dX9_read_48 : decode cX9_read 48 = .ok (.ifCond .eq 28, 3) := by decide +kernel
theorem dX9_read_51 : decode cX9_read 51 = .ok (.aload_n 0, 1) := by decide +kernel
theorem dX9_read_52 : decode cX9_read 52 = .ok (.invokevirtual 175, 3) := by decide +kernel
theorem dX9_read_55 : decode cX9_read 55 = .ok (.ifCond .eq 21, 3) := by decide +kernel
theorem dX9_read_58 : decode cX9_read 58 = .ok (.aload_n 0, 1) := by decide +kernel
theorem dX9_read_59 : decode cX9_read 59 = .ok (.invokevirtual 178, 3) := by decide +kernel
theorem dX9_read_62 : decode cX9_read 62 = .ok (.ifCond .eq 14, 3) := by decide +kernel
theorem dX9_read_65 : decode cX9_read 65 = .ok (.aload_n 0, 1) := by decide +kernel
theorem dX9_read_66 : decode cX9_read 66 = .ok (.invokevirtual 181, 3) := by decide +kernel
theorem dX9_read_69 : decode cX9_read 69 = .ok (.ifCond .eq 7, 3) := by decide +kernel
theorem dX9_read_72 : decode cX9_read 72 = .ok (.iconst 1, 1) := by decide +kernel
theorem dX9_read_73 : decode cX9_read 73 = .ok (.goto 4, 3) := by decide +kernel
theorem dX9_read_76 : decode cX9_read 76 = .ok (.iconst 0, 1) := by decide +kernel
theorem dX9_read_77 : decode cX9_read 77 = .ok (.ireturn, 1) := by decide +kernel
theorem dX9_compile_0 : decode cX9_compile 0 = .ok (.aload_n 0, 1) := by decide +kernel
theorem dX9_compile_1 : decode cX9_compile 1 = .ok (.iconst 0, 1) := by decide +kernel
theorem dX9_compile_2 : decode cX9_compile 2 = .ok (.putfield 104, 3) := by decide +kernel
theorem dX9_compile_5 : decode cX9_compile 5 = .ok (.aload_n 0, 1) := by decide +kernel
theorem dX9_compile_6 : decode cX9_compile 6 = .ok (.iconst 0, 1) := by decide +kernel
theorem dX9_compile_7 : decode cX9_compile 7 = .ok (.putfield 107, 3) := by decide +kernel
theorem dX9_compile_10 : decode cX9_compile 10 = .ok (.aload_n 0, 1) := by decide +kernel
theorem dX9_compile_11 : decode cX9_compile 11 = .ok (.invokevirtual 184, 3) := by decide +kernel
theorem dX9_compile_14 : decode cX9_compile 14 = .ok (.istore_n 1, 1) := by decide +kernel
theorem dX9_compile_15 : decode cX9_compile 15 = .ok (.aload_n 0, 1) := by decide +kernel
theorem dX9_compile_16 : decode cX9_compile 16 = .ok (.iconst 0, 1) := by decide +kernel
theorem dX9_compile_17 : decode cX9_compile 17 = .ok (.putfield 93, 3) := by decide +kernel
theorem dX9_compile_20 : decode cX9_compile 20 = .ok (.iload_n 1, 1) := by decide +kernel
theorem dX9_compile_21 : decode cX9_compile 21 = .ok (.ifCond .ne 9, 3) := by decide +kernel
theorem dX9_compile_24 : decode cX9_compile 24 = .ok (.aload_n 0, 1) := by decide +kernel
theorem dX9_compile_25 : decode cX9_compile 25 = .ok (.iconst 1, 1) := by decide +kernel
theorem dX9_compile_26 : decode cX9_compile 26 = .ok (.invokevirtual 187, 3) := by decide +kernel
theorem dX9_compile_29 : decode cX9_compile 29 = .ok (.ireturn, 1) := by decide +kernel
theorem dX9_compile_30 : decode cX9_compile 30 = .ok (.aload_n 0, 1) := by decide +kernel
theorem dX9_compile_31 : decode cX9_compile 31 = .ok (.iconst 0, 1) := by decide +kernel
theorem dX9_compile_32 : decode cX9_compile 32 = .ok (.putfield 89, 3) := by decide +kernel
theorem dX9_compile_35 : decode cX9_compile 35 = .ok (.aload_n 0, 1) := by decide +kernel
theorem dX9_compile_36 : decode cX9_compile 36 = .ok (.invokevirtual 190, 3) := by decide +kernel
theorem dX9_compile_39 : decode cX9_compile 39 = .ok (.aload_n 0, 1) := by decide +kernel
theorem dX9_compile_40 : decode cX9_compile 40 = .ok (.iconst 0, 1) := by decide +kernel
theorem dX9_compile_41 : decode cX9_compile 41 = .ok (.putfield 193, 3) := by decide +kernel
theorem dX9_compile_44 : decode cX9_compile 44 = .ok (.aload_n 0, 1) := by decide +kernel
theorem dX9_compile_45 : decode cX9_compile 45 = .ok (.iconst 0, 1) := by decide +kernel
theorem dX9_compile_46 : decode cX9_compile 46 = .ok (.putfield 196, 3) := by decide +kernel
theorem dX9_compile_49 : decode cX9_compile 49 = .ok (.aload_n 0, 1) := by decide +kernel
theorem dX9_compile_50 : decode cX9_compile 50 = .ok (.iconst 0, 1) := by decide +kernel
theorem dX9_compile_51 : decode cX9_compile 51 = .ok (.putfield 199, 3) := by decide +kernel
theorem dX9_compile_54 : decode cX9_compile 54 = .ok (.iconst 0, 1) := by decide +kernel
theorem dX9_compile_55 : decode cX9_compile 55 = .ok (.istore_n 2, 1) := by decide +kernel
theorem dX9_compile_56 : decode cX9_compile 56 = .ok (.iload_n 2, 1) := by decide +kernel
theorem dX9_compile_57 : decode cX9_compile 57 = .ok (.sipush 17280, 3) := by decide +kernel
theorem dX9_compile_60 : decode cX9_compile 60 = .ok (.if_icmp .ge 23, 3) := by decide +kernel
theorem dX9_compile_63 : decode cX9_compile 63 = .ok (.aload_n 0, 1) := by decide +kernel
theorem dX9_compile_64 : decode cX9_compile 64 = .ok (.getfield 71, 3) := by decide +kernel
theorem dX9_compile_67 : decode cX9_compile 67 = .ok (.iload_n 2, 1) := by decide +kernel
theorem dX9_compile_68 : decode cX9_compile 68 = .ok (.iconst 0, 1) := by decide +kernel
theorem dX9_compile_69 : decode cX9_compile 69 = .ok (.bastore, 1) := by decide +kernel
theorem dX9_compile_70 : decode cX9_compile 70 = .ok (.aload_n 0, 1) := by decide +kernel
theorem dX9_compile_71 : decode cX9_compile 71 = .ok (.getfield 77, 3) := by decide +kernel
theorem dX9_compile_74 : decode cX9_compile 74 = .ok (.iload_n 2, 1) := by decide +kernel
theorem dX9_compile_75 : decode cX9_compile 75 = .ok (.iconst 0, 1) := by decide +kernel
theorem dX9_compile_76 : decode cX9_compile 76 = .ok (.bastore, 1) := by decide +kernel
theorem dX9_compile_77 : decode cX9_compile 77 = .ok (.iinc 2 1, 3) := by decide +kernel
theorem dX9_compile_80 : decode cX9_compile 80 = .ok (.goto (-24), 3) := by decide +kernel
theorem dX9_compile_83 : decode cX9_compile 83 = .ok (.aload_n 0, 1) := by decide +kernel
theorem dX9_compile_84 : decode cX9_compile 84 = .ok (.invokevirtual 202, 3) := by decide +kernel
theorem dX9_compile_87 : decode cX9_compile 87 = .ok (.iconst 0, 1) := by decide +kernel
theorem dX9_compile_88 : decode cX9_compile 88 = .ok (.istore_n 2, 1) := by decide +kernel
theorem dX9_compile_89 : decode cX9_compile 89 = .ok (.iload_n 2, 1) := by decide +kernel
theorem dX9_compile_90 : decode cX9_compile 90 = .ok (.sipush 17280, 3) := by decide +kernel
theorem dX9_compile_93 : decode cX9_compile 93 = .ok (.if_icmp .ge 21, 3) := by decide +kernel
theorem dX9_compile_96 : decode cX9_compile 96 = .ok (.aload_n 0, 1) := by decide +kernel
theorem dX9_compile_97 : decode cX9_compile 97 = .ok (.getfield 74, 3) := by decide +kernel
theorem dX9_compile_100 : decode cX9_compile 100 = .ok (.iload_n 2, 1) := by decide +kernel
theorem dX9_compile_101 : decode cX9_compile 101 = .ok (.aload_n 0, 1) := by decide +kernel
theorem dX9_compile_102 : decode cX9_compile 102 = .ok (.getfield 71, 3) := by decide +kernel
theorem dX9_compile_105 : decode cX9_compile 105 = .ok (.iload_n 2, 1) := by decide +kernel
theorem dX9_compile_106 : decode cX9_compile 106 = .ok (.baload, 1) := by decide +kernel
theorem dX9_compile_107 : decode cX9_compile 107 = .ok (.bastore, 1) := by decide +kernel
theorem dX9_compile_108 : decode cX9_compile 108 = .ok (.iinc 2 1, 3) := by decide +kernel
theorem dX9_compile_111 : decode cX9_compile 111 = .ok (.goto (-22), 3) := by decide +kernel
theorem dX9_compile_114 : decode cX9_compile 114 = .ok (.aload_n 0, 1) := by decide +kernel
theorem dX9_compile_115 : decode cX9_compile 115 = .ok (.iconst 0, 1) := by decide +kernel
theorem dX9_compile_116 : decode cX9_compile 116 = .ok (.putfield 205, 3) := by decide +kernel
theorem dX9_compile_119 : decode cX9_compile 119 = .ok (.aload_n 0, 1) := by decide +kernel
theorem dX9_compile_120 : decode cX9_compile 120 = .ok (.getfield 209, 3) := by decide +kernel
theorem dX9_compile_123 : decode cX9_compile 123 = .ok (.ireturn, 1) := by decide +kernel
theorem dX9_numberOf_0 : decode cX9_numberOf 0 = .ok (.iconst 0, 1) := by decide +kernel
theorem dX9_numberOf_1 : decode cX9_numberOf 1 = .ok (.istore_n 3, 1) := by decide +kernel
theorem dX9_numberOf_2 : decode cX9_numberOf 2 = .ok (.iconst 0, 1) := by decide +kernel
theorem dX9_numberOf_3 : decode cX9_numberOf 3 = .ok (.istore 4, 2) := by decide +kernel
theorem dX9_numberOf_5 : decode cX9_numberOf 5 = .ok (.aload_n 0, 1) := by decide +kernel
theorem dX9_numberOf_6 : decode cX9_numberOf 6 = .ok (.getfield 28, 3) := by decide +kernel
theorem dX9_numberOf_9 : decode cX9_numberOf 9 = .ok (.aload_n 0, 1) := by decide +kernel
theorem dX9_numberOf_10 : decode cX9_numberOf 10 = .ok (.getfield 13, 3) := by decide +kernel
theorem dX9_numberOf_13 : decode cX9_numberOf 13 = .ok (.iload_n 1, 1) := by decide +kernel
theorem dX9_numberOf_14 : decode cX9_numberOf 14 = .ok (.iaload, 1) := by decide +kernel
theorem dX9_numberOf_15 : decode cX9_numberOf 15 = .ok (.iaload, 1) := by decide +kernel
theorem dX9_numberOf_16 : decode cX9_numberOf 16 = .ok (.istore 5, 2) := by decide +kernel
theorem dX9_numberOf_18 : decode cX9_numberOf 18 = .ok (.aload_n 0, 1) := by decide +kernel
theorem dX9_numberOf_19 : decode cX9_numberOf 19 = .ok (.getfield 37, 3) := by decide +kernel
theorem dX9_numberOf_22 : decode cX9_numberOf 22 = .ok (.iload 5, 2) := by decide +kernel
theorem dX9_numberOf_24 : decode cX9_numberOf 24 = .ok (.iaload, 1) := by decide +kernel
theorem dX9_numberOf_25 : decode cX9_numberOf 25 = .ok (.iload_n 2, 1) := by decide +kernel
theorem dX9_numberOf_26 : decode cX9_numberOf 26 = .ok (.if_icmp .eq 60, 3) := by decide +kernel
theorem dX9_numberOf_29 : decode cX9_numberOf 29 = .ok (.aload_n 0, 1) := by decide +kernel
theorem dX9_numberOf_30 : decode cX9_numberOf 30 = .ok (.getfield 37, 3) := by decide +kernel
theorem dX9_numberOf_33 : decode cX9_numberOf 33 = .ok (.iload 5, 2) := by decide +kernel
theorem dX9_numberOf_35 : decode cX9_numberOf 35 = .ok (.iaload, 1) := by decide +kernel
theorem dX9_numberOf_36 : decode cX9_numberOf 36 = .ok (.bipush 100, 2) := by decide +kernel
theorem dX9_numberOf_38 : decode cX9_numberOf 38 = .ok (.if_icmp .lt 42, 3) := by decide +kernel
theorem dX9_numberOf_41 : decode cX9_numberOf 41 = .ok (.iload_n 3, 1) := by decide +kernel
theorem dX9_numberOf_42 : decode cX9_numberOf 42 = .ok (.aload_n 0, 1) := by decide +kernel
theorem dX9_numberOf_43 : decode cX9_numberOf 43 = .ok (.getfield 37, 3) := by decide +kernel
theorem dX9_numberOf_46 : decode cX9_numberOf 46 = .ok (.iload 5, 2) := by decide +kernel
theorem dX9_numberOf_48 : decode cX9_numberOf 48 = .ok (.iaload, 1) := by decide +kernel
theorem dX9_numberOf_49 : decode cX9_numberOf 49 = .ok (.bipush 100, 2) := by decide +kernel
theorem dX9_numberOf_51 : decode cX9_numberOf 51 = .ok (.isub, 1) := by decide +kernel
theorem dX9_numberOf_52 : decode cX9_numberOf 52 = .ok (.ishr, 1) := by decide +kernel
theorem dX9_numberOf_53 : decode cX9_numberOf 53 = .ok (.iconst 1, 1) := by decide +kernel
theorem dX9_numberOf_54 : decode cX9_numberOf 54 = .ok (.iand, 1) := by decide +kernel
theorem dX9_numberOf_55 : decode cX9_numberOf 55 = .ok (.iconst 1, 1) := by decide +kernel
theorem dX9_numberOf_56 : decode cX9_numberOf 56 = .ok (.if_icmp .ne 6, 3) := by decide +kernel
theorem dX9_numberOf_59 : decode cX9_numberOf 59 = .ok (.goto 21, 3) := by decide +kernel
theorem dX9_numberOf_62 : decode cX9_numberOf 62 = .ok (.iload_n 3, 1) := by decide +kernel
theorem dX9_numberOf_63 : decode cX9_numberOf 63 = .ok (.iconst 1, 1) := by decide +kernel
theorem dX9_numberOf_64 : decode cX9_numberOf 64 = .ok (.aload_n 0, 1) := by decide +kernel
theorem dX9_numberOf_65 : decode cX9_numberOf 65 = .ok (.getfield 37, 3) := by decide +kernel
theorem dX9_numberOf_68 : decode cX9_numberOf 68 = .ok (.iload 5, 2) := by decide +kernel
theorem dX9_numberOf_70 : decode cX9_numberOf 70 = .ok (.iaload, 1) := by decide +kernel
theorem dX9_numberOf_71 : decode cX9_numberOf 71 = .ok (.bipush 100, 2) := by decide +kernel
theorem dX9_numberOf_73 : decode cX9_numberOf 73 = .ok (.isub, 1) := by decide +kernel
theorem dX9_numberOf_74 : decode cX9_numberOf 74 = .ok (.ishl, 1) := by decide +kernel
theorem dX9_numberOf_75 : decode cX9_numberOf 75 = .ok (.ior, 1) := by decide +kernel
theorem dX9_numberOf_76 : decode cX9_numberOf 76 = .ok (.istore_n 3, 1) := by decide +kernel
theorem dX9_numberOf_77 : decode cX9_numberOf 77 = .ok (.iinc 4 1, 3) := by decide +kernel
theorem dX9_numberOf_80 : decode cX9_numberOf 80 = .ok (.iinc 5 1, 3) := by decide +kernel
theorem dX9_numberOf_83 : decode cX9_numberOf 83 = .ok (.goto (-65), 3) := by decide +kernel
theorem dX9_numberOf_86 : decode cX9_numberOf 86 = .ok (.iload 4, 2) := by decide +kernel
theorem dX9_numberOf_88 : decode cX9_numberOf 88 = .ok (.ireturn, 1) := by decide +kernel
theorem dX9_adopt_0 : decode cX9_adopt 0 = .ok (.aload_n 0, 1) := by decide +kernel
theorem dX9_adopt_1 : decode cX9_adopt 1 = .ok (.aload_n 0, 1) := by decide +kernel
theorem dX9_adopt_2 : decode cX9_adopt 2 = .ok (.getfield 150, 3) := by decide +kernel
theorem dX9_adopt_5 : decode cX9_adopt 5 = .ok (.putfield 209, 3) := by decide +kernel
theorem dX9_adopt_8 : decode cX9_adopt 8 = .ok (.iconst 0, 1) := by decide +kernel
theorem dX9_adopt_9 : decode cX9_adopt 9 = .ok (.istore_n 1, 1) := by decide +kernel
theorem dX9_adopt_10 : decode cX9_adopt 10 = .ok (.iload_n 1, 1) := by decide +kernel
theorem dX9_adopt_11 : decode cX9_adopt 11 = .ok (.bipush 10, 2) := by decide +kernel
theorem dX9_adopt_13 : decode cX9_adopt 13 = .ok (.if_icmp .ge 30, 3) := by decide +kernel
theorem dX9_adopt_16 : decode cX9_adopt 16 = .ok (.aload_n 0, 1) := by decide +kernel
theorem dX9_adopt_17 : decode cX9_adopt 17 = .ok (.getfield 62, 3) := by decide +kernel
theorem dX9_adopt_20 : decode cX9_adopt 20 = .ok (.iload_n 1, 1) := by decide +kernel
theorem dX9_adopt_21 : decode cX9_adopt 21 = .ok (.iconst 0, 1) := by decide +kernel
theorem dX9_adopt_22 : decode cX9_adopt 22 = .ok (.iastore, 1) := by decide +kernel
theorem dX9_adopt_23 : decode cX9_adopt 23 = .ok (.aload_n 0, 1) := by decide +kernel
theorem dX9_adopt_24 : decode cX9_adopt 24 = .ok (.getfield 65, 3) := by decide +kernel
theorem dX9_adopt_27 : decode cX9_adopt 27 = .ok (.iload_n 1, 1) := by decide +kernel
theorem dX9_adopt_28 : decode cX9_adopt 28 = .ok (.iconst 0, 1) := by decide +kernel
theorem dX9_adopt_29 : decode cX9_adopt 29 = .ok (.iastore, 1) := by decide +kernel
theorem dX9_adopt_30 : decode cX9_adopt 30 = .ok (.aload_n 0, 1) := by decide +kernel
theorem dX9_adopt_31 : decode cX9_adopt 31 = .ok (.getfield 68, 3) := by decide +kernel
theorem dX9_adopt_34 : decode cX9_adopt 34 = .ok (.iload_n 1, 1) := by decide +kernel
theorem dX9_adopt_35 : decode cX9_adopt 35 = .ok (.iconst 0, 1) := by decide +kernel
theorem dX9_adopt_36 : decode cX9_adopt 36 = .ok (.iastore, 1) := by decide +kernel
theorem dX9_adopt_37 : decode cX9_adopt 37 = .ok (.iinc 1 1, 3) := by decide +kernel
theorem dX9_adopt_40 : decode cX9_adopt 40 = .ok (.goto (-30), 3) := by decide +kernel
theorem dX9_adopt_43 : decode cX9_adopt 43 = .ok (.iconst 0, 1) := by decide +kernel
theorem dX9_adopt_44 : decode cX9_adopt 44 = .ok (.istore_n 1, 1) := by decide +kernel
theorem dX9_adopt_45 : decode cX9_adopt 45 = .ok (.iload_n 1, 1) := by decide +kernel
theorem dX9_adopt_46 : decode cX9_adopt 46 = .ok (.aload_n 0, 1) := by decide +kernel
theorem dX9_adopt_47 : decode cX9_adopt 47 = .ok (.getfield 150, 3) := by decide +kernel
theorem dX9_adopt_50 : decode cX9_adopt 50 = .ok (.if_icmp .ge 247, 3) := by decide +kernel
theorem dX9_adopt_53 : decode cX9_adopt 53 = .ok (.aload_n 0, 1) := by decide +kernel
theorem dX9_adopt_54 : decode cX9_adopt 54 = .ok (.getfield 44, 3) := by decide +kernel
theorem dX9_adopt_57 : decode cX9_adopt 57 = .ok (.iload_n 1, 1) := by decide +kernel
theorem dX9_adopt_58 : decode cX9_adopt 58 = .ok (.aload_n 0, 1) := by decide +kernel
theorem dX9_adopt_59 : decode cX9_adopt 59 = .ok (.getfield 16, 3) := by decide +kernel
theorem dX9_adopt_62 : decode cX9_adopt 62 = .ok (.iload_n 1, 1) := by decide +kernel
theorem dX9_adopt_63 : decode cX9_adopt 63 = .ok (.iaload, 1) := by decide +kernel
theorem dX9_adopt_64 : decode cX9_adopt 64 = .ok (.iastore, 1) := by decide +kernel
theorem dX9_adopt_65 : decode cX9_adopt 65 = .ok (.aload_n 0, 1) := by decide +kernel
theorem dX9_adopt_66 : decode cX9_adopt 66 = .ok (.getfield 59, 3) := by decide +kernel
theorem dX9_adopt_69 : decode cX9_adopt 69 = .ok (.iload_n 1, 1) := by decide +kernel
theorem dX9_adopt_70 : decode cX9_adopt 70 = .ok (.aload_n 0, 1) := by decide +kernel
theorem dX9_adopt_71 : decode cX9_adopt 71 = .ok (.iload_n 1, 1) := by decide +kernel
theorem dX9_adopt_72 : decode cX9_adopt 72 = .ok (.invokevirtual 159, 3) := by decide +kernel
theorem dX9_adopt_75 : decode cX9_adopt 75 = .ok (.iastore, 1) := by decide +kernel
theorem dX9_adopt_76 : decode cX9_adopt 76 = .ok (.iconst 0, 1) := by decide +kernel
theorem dX9_adopt_77 : decode cX9_adopt 77 = .ok (.istore_n 2, 1) := by decide +kernel
theorem dX9_adopt_78 : decode cX9_adopt 78 = .ok (.iload_n 2, 1) := by decide +kernel
theorem dX9_adopt_79 : decode cX9_adopt 79 = .ok (.aload_n 0, 1) := by decide +kernel
theorem dX9_adopt_80 : decode cX9_adopt 80 = .ok (.getfield 16, 3) := by decide +kernel
theorem dX9_adopt_83 : decode cX9_adopt 83 = .ok (.iload_n 1, 1) := by decide +kernel
theorem dX9_adopt_84 : decode cX9_adopt 84 = .ok (.iaload, 1) := by decide +kernel
theorem dX9_adopt_85 : decode cX9_adopt 85 = .ok (.if_icmp .gt 206, 3) := by decide +kernel
theorem dX9_adopt_88 : decode cX9_adopt 88 = .ok (.aload_n 0, 1) := by decide +kernel
theorem dX9_adopt_89 : decode cX9_adopt 89 = .ok (.getfield 13, 3) := by decide +kernel
theorem dX9_adopt_92 : decode cX9_adopt 92 = .ok (.iload_n 1, 1) := by decide +kernel
theorem dX9_adopt_93 : decode cX9_adopt 93 = .ok (.iaload, 1) := by decide +kernel
theorem dX9_adopt_94 : decode cX9_adopt 94 = .ok (.iload_n 2, 1) := by decide +kernel
theorem dX9_adopt_95 : decode cX9_adopt 95 = .ok (.iadd, 1) := by decide +kernel
theorem dX9_adopt_96 : decode cX9_adopt 96 = .ok (.istore_n 3, 1) := by decide +kernel
theorem dX9_adopt_97 : decode cX9_adopt 97 = .ok (.aload_n 0, 1) := by decide +kernel
theorem dX9_adopt_98 : decode cX9_adopt 98 = .ok (.getfield 47, 3) := by decide +kernel
theorem dX9_adopt_101 : decode cX9_adopt 101 = .ok (.bipush 6, 2) := by decide +kernel
theorem dX9_adopt_103 : decode cX9_adopt 103 = .ok (.iload_n 1, 1) := by decide +kernel
theorem dX9_adopt_104 : decode cX9_adopt 104 = .ok (.imul, 1) := by decide +kernel
theorem dX9_adopt_105 : decode cX9_adopt 105 = .ok (.iload_n 2, 1) := by decide +kernel
theorem dX9_adopt_106 : decode cX9_adopt 106 = .ok (.iadd, 1) := by decide +kernel
theorem dX9_adopt_107 : decode cX9_adopt 107 = .ok (.aload_n 0, 1) := by decide +kernel
theorem dX9_adopt_108 : decode cX9_adopt 108 = .ok (.getfield 22, 3) := by decide +kernel
theorem dX9_adopt_111 : decode cX9_adopt 111 = .ok (.iload_n 3, 1) := by decide +kernel
theorem dX9_adopt_112 : decode cX9_adopt 112 = .ok (.iaload, 1) := by decide +kernel
theorem dX9_adopt_113 : decode cX9_adopt 113 = .ok (.iastore, 1) := by decide +kernel
theorem dX9_adopt_114 : decode cX9_adopt 114 = .ok (.aload_n 0, 1) := by decide +kernel
theorem dX9_adopt_115 : decode cX9_adopt 115 = .ok (.getfield 50, 3) := by decide +kernel
theorem dX9_adopt_118 : decode cX9_adopt 118 = .ok (.bipush 6, 2) := by decide +kernel
theorem dX9_adopt_120 : decode cX9_adopt 120 = .ok (.iload_n 1, 1) := by decide +kernel
theorem dX9_adopt_121 : decode cX9_adopt 121 = .ok (.imul, 1) := by decide +kernel
theorem dX9_adopt_122 : decode cX9_adopt 122 = .ok (.iload_n 2, 1) := by decide +kernel
theorem dX9_adopt_123 : decode cX9_adopt 123 = .ok (.iadd, 1) := by decide +kernel
theorem dX9_adopt_124 : decode cX9_adopt 124 = .ok (.aload_n 0, 1) := by decide +kernel
theorem dX9_adopt_125 : decode cX9_adopt 125 = .ok (.getfield 25, 3) := by decide +kernel
theorem dX9_adopt_128 : decode cX9_adopt 128 = .ok (.iload_n 3, 1) := by decide +kernel
theorem dX9_adopt_129 : decode cX9_adopt 129 = .ok (.iaload, 1) := by decide +kernel
theorem dX9_adopt_130 : decode cX9_adopt 130 = .ok (.iastore, 1) := by decide +kernel
theorem dX9_adopt_131 : decode cX9_adopt 131 = .ok (.aload_n 0, 1) := by decide +kernel
theorem dX9_adopt_132 : decode cX9_adopt 132 = .ok (.getfield 53, 3) := by decide +kernel
theorem dX9_adopt_135 : decode cX9_adopt 135 = .ok (.bipush 6, 2) := by decide +kernel
theorem dX9_adopt_137 : decode cX9_adopt 137 = .ok (.iload_n 1, 1) := by decide +kernel
theorem dX9_adopt_138 : decode cX9_adopt 138 = .ok (.imul, 1) := by decide +kernel
theorem dX9_adopt_139 : decode cX9_adopt 139 = .ok (.iload_n 2, 1) := by decide +kernel
theorem dX9_adopt_140 : decode cX9_adopt 140 = .ok (.iadd, 1) := by decide +kernel
theorem dX9_adopt_141 : decode cX9_adopt 141 = .ok (.aload_n 0, 1) := by decide +kernel
theorem dX9_adopt_142 : decode cX9_adopt 142 = .ok (.getfield 31, 3) := by decide +kernel
theorem dX9_adopt_145 : decode cX9_adopt 145 = .ok (.iload_n 3, 1) := by decide +kernel
theorem dX9_adopt_146 : decode cX9_adopt 146 = .ok (.iaload, 1) := by decide +kernel
theorem dX9_adopt_147 : decode cX9_adopt 147 = .ok (.iastore, 1) := by decide +kernel
theorem dX9_adopt_148 : decode cX9_adopt 148 = .ok (.iconst 0, 1) := by decide +kernel
theorem dX9_adopt_149 : decode cX9_adopt 149 = .ok (.istore 4, 2) := by decide +kernel
theorem dX9_adopt_151 : decode cX9_adopt 151 = .ok (.iload 4, 2) := by decide +kernel
theorem dX9_adopt_153 : decode cX9_adopt 153 = .ok (.aload_n 0, 1) := by decide +kernel
theorem dX9_adopt_154 : decode cX9_adopt 154 = .ok (.getfield 31, 3) := by decide +kernel
theorem dX9_adopt_157 : decode cX9_adopt 157 = .ok (.iload_n 3, 1) := by decide +kernel
theorem dX9_adopt_158 : decode cX9_adopt 158 = .ok (.iaload, 1) := by decide +kernel
theorem dX9_adopt_159 : decode cX9_adopt 159 = .ok (.if_icmp .ge 63, 3) := by decide +kernel
theorem dX9_adopt_162 : decode cX9_adopt 162 = .ok (.aload_n 0, 1) := by decide +kernel
theorem dX9_adopt_163 : decode cX9_adopt 163 = .ok (.getfield 37, 3) := by decide +kernel
theorem dX9_adopt_166 : decode cX9_adopt 166 = .ok (.aload_n 0, 1) := by decide +kernel
theorem dX9_adopt_167 : decode cX9_adopt 167 = .ok (.getfield 28, 3) := by decide +kernel
theorem dX9_adopt_170 : decode cX9_adopt 170 = .ok (.iload_n 3, 1) := by decide +kernel
theorem dX9_adopt_171 : decode cX9_adopt 171 = .ok (.iaload, 1) := by decide +kernel
theorem dX9_adopt_172 : decode cX9_adopt 172 = .ok (.iload 4, 2) := by decide +kernel
theorem dX9_adopt_174 : decode cX9_adopt 174 = .ok (.iadd, 1) := by decide +kernel
theorem dX9_adopt_175 : decode cX9_adopt 175 = .ok (.iaload, 1) := by decide +kernel
theorem dX9_adopt_176 : decode cX9_adopt 176 = .ok (.istore 5, 2) := by decide +kernel
theorem dX9_adopt_178 : decode cX9_adopt 178 = .ok (.aload_n 0, 1) := by decide +kernel
theorem dX9_adopt_179 : decode cX9_adopt 179 = .ok (.getfield 56, 3) := by decide +kernel
theorem dX9_adopt_182 : decode cX9_adopt 182 = .ok (.iconst 3, 1) := by decide +kernel
theorem dX9_adopt_183 : decode cX9_adopt 183 = .ok (.bipush 6, 2) := by decide +kernel
theorem dX9_adopt_185 : decode cX9_adopt 185 = .ok (.iload_n 1, 1) := by decide +kernel
theorem dX9_adopt_186 : decode cX9_adopt 186 = .ok (.imul, 1) := by decide +kernel
theorem dX9_adopt_187 : decode cX9_adopt 187 = .ok (.iload_n 2, 1) := by decide +kernel
theorem dX9_adopt_188 : decode cX9_adopt 188 = .ok (.iadd, 1) := by decide +kernel
theorem dX9_adopt_189 : decode cX9_adopt 189 = .ok (.imul, 1) := by decide +kernel
theorem dX9_adopt_190 : decode cX9_adopt 190 = .ok (.iload 4, 2) := by decide +kernel
theorem dX9_adopt_192 : decode cX9_adopt 192 = .ok (.iadd, 1) := by decide +kernel
theorem dX9_adopt_193 : decode cX9_adopt 193 = .ok (.iload 5, 2) := by decide +kernel
theorem dX9_adopt_195 : decode cX9_adopt 195 = .ok (.bipush 100, 2) := by decide +kernel
theorem dX9_adopt_197 : decode cX9_adopt 197 = .ok (.if_icmp .ge 8, 3) := by decide +kernel
theorem dX9_adopt_200 : decode cX9_adopt 200 = .ok (.iload 5, 2) := by decide +kernel
theorem dX9_adopt_202 : decode cX9_adopt 202 = .ok (.goto 13, 3) := by decide +kernel
theorem dX9_adopt_205 : decode cX9_adopt 205 = .ok (.bipush 100, 2) := by decide +kernel
theorem dX9_adopt_207 : decode cX9_adopt 207 = .ok (.aload_n 0, 1) := by decide +kernel
theorem dX9_adopt_208 : decode cX9_adopt 208 = .ok (.iload_n 1, 1) := by decide +kernel
theorem dX9_adopt_209 : decode cX9_adopt 209 = .ok (.iload 5, 2) := by decide +kernel
theorem dX9_adopt_211 : decode cX9_adopt 211 = .ok (.invokevirtual 212, 3) := by decide +kernel
theorem dX9_adopt_214 : decode cX9_adopt 214 = .ok (.iadd, 1) := by decide +kernel
theorem dX9_adopt_215 : decode cX9_adopt 215 = .ok (.iastore, 1) := by decide +kernel
theorem dX9_adopt_216 : decode cX9_adopt 216 = .ok (.iinc 4 1, 3) := by decide +kernel
theorem dX9_adopt_219 : decode cX9_adopt 219 = .ok (.goto (-68), 3) := by decide +kernel
theorem dX9_adopt_222 : decode cX9_adopt 222 = .ok (.aload_n 0, 1) := by decide +kernel
theorem dX9_adopt_223 : decode cX9_adopt 223 = .ok (.iload_n 3, 1) := by decide +kernel
theorem dX9_adopt_224 : decode cX9_adopt 224 = .ok (.invokevirtual 156, 3) := by decide +kernel
theorem dX9_adopt_227 : decode cX9_adopt 227 = .ok (.ifCond .ne 6, 3) := by decide +kernel
theorem dX9_adopt_230 : decode cX9_adopt 230 = .ok (.goto 55, 3) := by decide +kernel
theorem dX9_adopt_233 : decode cX9_adopt 233 = .ok (.aload_n 0, 1) := by decide +kernel
theorem dX9_adopt_234 : decode cX9_adopt 234 = .ok (.getfield 25, 3) := by decide +kernel
theorem dX9_adopt_237 : decode cX9_adopt 237 = .ok (.iload_n 3, 1) := by decide +kernel
theorem dX9_adopt_238 : decode cX9_adopt 238 = .ok (.iaload, 1) := by decide +kernel
theorem dX9_adopt_239 : decode cX9_adopt 239 = .ok (.istore 4, 2) := by decide +kernel
theorem dX9_adopt_241 : decode cX9_adopt 241 = .ok (.aload_n 0, 1) := by decide +kernel
theorem dX9_adopt_242 : decode cX9_adopt 242 = .ok (.getfield 65, 3) := by decide +kernel
theorem dX9_adopt_245 : decode cX9_adopt 245 = .ok (.iload 4, 2) := by decide +kernel
theorem dX9_adopt_247 : decode cX9_adopt 247 = .ok (.aload_n 0, 1) := by decide +kernel
theorem dX9_adopt_248 : decode cX9_adopt 248 = .ok (.getfield 31, 3) := by decide +kernel
theorem dX9_adopt_251 : decode cX9_adopt 251 = .ok (.iload_n 3, 1) := by decide +kernel
theorem dX9_adopt_252 : decode cX9_adopt 252 = .ok (.iaload, 1) := by decide +kernel
theorem dX9_adopt_253 : decode cX9_adopt 253 = .ok (.iastore, 1) := by decide +kernel
theorem dX9_adopt_254 : decode cX9_adopt 254 = .ok (.aload_n 0, 1) := by decide +kernel
theorem dX9_adopt_255 : decode cX9_adopt 255 = .ok (.getfield 62, 3) := by decide +kernel
theorem dX9_adopt_258 : decode cX9_adopt 258 = .ok (.iload 4, 2) := by decide +kernel
theorem dX9_adopt_260 : decode cX9_adopt 260 = .ok (.iload_n 2, 1) := by decide +kernel
theorem dX9_adopt_261 : decode cX9_adopt 261 = .ok (.ifCond .ne 7, 3) := by decide +kernel
theorem dX9_adopt_264 : decode cX9_adopt 264 = .ok (.iconst 2, 1) := by decide +kernel
theorem dX9_adopt_265 : decode cX9_adopt 265 = .ok (.goto 19, 3) := by decide +kernel
theorem dX9_adopt_268 : decode cX9_adopt 268 = .ok (.aload_n 0, 1) := by decide +kernel
theorem dX9_adopt_269 : decode cX9_adopt 269 = .ok (.getfield 62, 3) := by decide +kernel
theorem dX9_adopt_272 : decode cX9_adopt 272 = .ok (.iload 4, 2) := by decide +kernel
theorem dX9_adopt_274 : decode cX9_adopt 274 = .ok (.iaload, 1) := by decide +kernel
theorem dX9_adopt_275 : decode cX9_adopt 275 = .ok (.iconst 2, 1) := by decide +kernel
theorem dX9_adopt_276 : decode cX9_adopt 276 = .ok (.if_icmp .ne 7, 3) := by decide +kernel
theorem dX9_adopt_279 : decode cX9_adopt 279 = .ok (.iconst 2, 1) := by decide +kernel
theorem dX9_adopt_280 : decode cX9_adopt 280 = .ok (.goto 4, 3) := by decide +kernel
theorem dX9_adopt_283 : decode cX9_adopt 283 = .ok (.iconst 1, 1) := by decide +kernel
theorem dX9_adopt_284 : decode cX9_adopt 284 = .ok (.iastore, 1) := by decide +kernel
theorem dX9_adopt_285 : decode cX9_adopt 285 = .ok (.iinc 2 1, 3) := by decide +kernel
theorem dX9_adopt_288 : decode cX9_adopt 288 = .ok (.goto (-210), 3) := by decide +kernel
theorem dX9_adopt_291 : decode cX9_adopt 291 = .ok (.iinc 1 1, 3) := by decide +kernel
theorem dX9_adopt_294 : decode cX9_adopt 294 = .ok (.goto (-249), 3) := by decide +kernel
theorem dX9_adopt_297 : decode cX9_adopt 297 = .ok (.iconst 0, 1) := by decide +kernel
theorem dX9_adopt_298 : decode cX9_adopt 298 = .ok (.istore_n 1, 1) := by decide +kernel
theorem dX9_adopt_299 : decode cX9_adopt 299 = .ok (.iload_n 1, 1) := by decide +kernel
theorem dX9_adopt_300 : decode cX9_adopt 300 = .ok (.bipush 10, 2) := by decide +kernel
theorem dX9_adopt_302 : decode cX9_adopt 302 = .ok (.if_icmp .ge 30, 3) := by decide +kernel
theorem dX9_adopt_305 : decode cX9_adopt 305 = .ok (.aload_n 0, 1) := by decide +kernel
theorem dX9_adopt_306 : decode cX9_adopt 306 = .ok (.getfield 68, 3) := by decide +kernel
theorem dX9_adopt_309 : decode cX9_adopt 309 = .ok (.iload_n 1, 1) := by decide +kernel
theorem dX9_adopt_310 : decode cX9_adopt 310 = .ok (.aload_n 0, 1) := by decide +kernel
theorem dX9_adopt_311 : decode cX9_adopt 311 = .ok (.getfield 62, 3) := by decide +kernel
theorem dX9_adopt_314 : decode cX9_adopt 314 = .ok (.iload_n 1, 1) := by decide +kernel
theorem dX9_adopt_315 : decode cX9_adopt 315 = .ok (.iaload, 1) := by decide +kernel
theorem dX9_adopt_316 : decode cX9_adopt 316 = .ok (.iconst 2, 1) := by decide +kernel
theorem dX9_adopt_317 : decode cX9_adopt 317 = .ok (.if_icmp .ne 7, 3) := by decide +kernel
theorem dX9_adopt_320 : decode cX9_adopt 320 = .ok (.iconst 1, 1) := by decide +kernel
theorem dX9_adopt_321 : decode cX9_adopt 321 = .ok (.goto 4, 3) := by decide +kernel
theorem dX9_adopt_324 : decode cX9_adopt 324 = .ok (.iconst 0, 1) := by decide +kernel
theorem dX9_adopt_325 : decode cX9_adopt 325 = .ok (.iastore, 1) := by decide +kernel
theorem dX9_adopt_326 : decode cX9_adopt 326 = .ok (.iinc 1 1, 3) := by decide +kernel
theorem dX9_adopt_329 : decode cX9_adopt 329 = .ok (.goto (-30), 3) := by decide +kernel
theorem dX9_adopt_332 : decode cX9_adopt 332 = .ok (.iconst 1, 1) := by decide +kernel
theorem dX9_adopt_333 : decode cX9_adopt 333 = .ok (.istore_n 1, 1) := by decide +kernel
theorem dX9_adopt_334 : decode cX9_adopt 334 = .ok (.iload_n 1, 1) := by decide +kernel
theorem dX9_adopt_335 : decode cX9_adopt 335 = .ok (.ifCond .eq 145, 3) := by decide +kernel
theorem dX9_adopt_338 : decode cX9_adopt 338 = .ok (.iconst 0, 1) := by decide +kernel
theorem dX9_adopt_339 : decode cX9_adopt 339 = .ok (.istore_n 1, 1) := by decide +kernel
theorem dX9_adopt_340 : decode cX9_adopt 340 = .ok (.iconst 0, 1) := by decide +kernel
theorem dX9_adopt_341 : decode cX9_adopt 341 = .ok (.istore_n 2, 1) := by decide +kernel
theorem dX9_adopt_342 : decode cX9_adopt 342 = .ok (.iload_n 2, 1) := by decide +kernel
theorem dX9_adopt_343 : decode cX9_adopt 343 = .ok (.aload_n 0, 1) := by decide +kernel
theorem dX9_adopt_344 : decode cX9_adopt 344 = .ok (.getfield 209, 3) := by decide +kernel
theorem dX9_adopt_347 : decode cX9_adopt 347 = .ok (.if_icmp .ge 130, 3) := by decide +kernel
theorem dX9_adopt_350 : decode cX9_adopt 350 = .ok (.aload_n 0, 1) := by decide +kernel
theorem dX9_adopt_351 : decode cX9_adopt 351 = .ok (.getfield 50, 3) := by decide +kernel
theorem dX9_adopt_354 : decode cX9_adopt 354 = .ok (.bipush 6, 2) := by decide +kernel
theorem dX9_adopt_356 : decode cX9_adopt 356 = .ok (.iload_n 2, 1) := by decide +kernel
theorem dX9_adopt_357 : decode cX9_adopt 357 = .ok (.imul, 1) := by decide +kernel
theorem dX9_adopt_358 : decode cX9_adopt 358 = .ok (.iaload, 1) := by decide +kernel
theorem dX9_adopt_359 : decode cX9_adopt 359 = .ok (.istore_n 3, 1) := by decide +kernel
theorem dX9_adopt_360 : decode cX9_adopt 360 = .ok (.iconst 1, 1) := by decide +kernel
theorem dX9_adopt_361 : decode cX9_adopt 361 = .ok (.istore 4, 2) := by decide +kernel
theorem dX9_adopt_363 : decode cX9_adopt 363 = .ok (.iload 4, 2) := by decide +kernel
theorem dX9_adopt_365 : decode cX9_adopt 365 = .ok (.aload_n 0, 1) := by decide +kernel
theorem dX9_adopt_366 : decode cX9_adopt 366 = .ok (.getfield 44, 3) := by decide +kernel
theorem dX9_adopt_369 : decode cX9_adopt 369 = .ok (.iload_n 2, 1) := by decide +kernel
theorem dX9_adopt_370 : decode cX9_adopt 370 = .ok (.iaload, 1) := by decide +kernel
theorem dX9_adopt_371 : decode cX9_adopt 371 = .ok (.if_icmp .gt 100, 3) := by decide +kernel
theorem dX9_adopt_374 : decode cX9_adopt 374 = .ok (.aload_n 0, 1) := by decide +kernel
theorem dX9_adopt_375 : decode cX9_adopt 375 = .ok (.getfield 47, 3) := by decide +kernel
theorem dX9_adopt_378 : decode cX9_adopt 378 = .ok (.bipush 6, 2) := by decide +kernel
theorem dX9_adopt_380 : decode cX9_adopt 380 = .ok (.iload_n 2, 1) := by decide +kernel
theorem dX9_adopt_381 : decode cX9_adopt 381 = .ok (.imul, 1) := by decide +kernel
theorem dX9_adopt_382 : decode cX9_adopt 382 = .ok (.iload 4, 2) := by decide +kernel
theorem dX9_adopt_384 : decode cX9_adopt 384 = .ok (.iadd, 1) := by decide +kernel
theorem dX9_adopt_385 : decode cX9_adopt 385 = .ok (.iaload, 1) := by decide +kernel
theorem dX9_adopt_386 : decode cX9_adopt 386 = .ok (.iconst 1, 1) := by decide +kernel
theorem dX9_adopt_387 : decode cX9_adopt 387 = .ok (.if_icmp .le 6, 3) := by decide +kernel
theorem dX9_adopt_390 : decode cX9_adopt 390 = .ok (.goto 75, 3) := by decide +kernel
theorem dX9_adopt_393 : decode cX9_adopt 393 = .ok (.aload_n 0, 1) := by decide +kernel
theorem dX9_adopt_394 : decode cX9_adopt 394 = .ok (.getfield 68, 3) := by decide +kernel
theorem dX9_adopt_397 : decode cX9_adopt 397 = .ok (.aload_n 0, 1) := by decide +kernel
theorem dX9_adopt_398 : decode cX9_adopt 398 = .ok (.getfield 50, 3) := by decide +kernel
theorem dX9_adopt_401 : decode cX9_adopt 401 = .ok (.bipush 6, 2) := by decide +kernel
theorem dX9_adopt_403 : decode cX9_adopt 403 = .ok (.iload_n 2, 1) := by decide +kernel
theorem dX9_adopt_404 : decode cX9_adopt 404 = .ok (.imul, 1) := by decide +kernel
theorem dX9_adopt_405 : decode cX9_adopt 405 = .ok (.iload 4, 2) := by decide +kernel
theorem dX9_adopt_407 : decode cX9_adopt 407 = .ok (.iadd, 1) := by decide +kernel
theorem dX9_adopt_408 : decode cX9_adopt 408 = .ok (.iaload, 1) := by decide +kernel
theorem dX9_adopt_409 : decode cX9_adopt 409 = .ok (.iaload, 1) := by decide +kernel
theorem dX9_adopt_410 : decode cX9_adopt 410 = .ok (.aload_n 0, 1) := by decide +kernel
theorem dX9_adopt_411 : decode cX9_adopt 411 = .ok (.getfield 47, 3) := by decide +kernel
theorem dX9_adopt_414 : decode cX9_adopt 414 = .ok (.bipush 6, 2) := by decide +kernel
theorem dX9_adopt_416 : decode cX9_adopt 416 = .ok (.iload_n 2, 1) := by decide +kernel
theorem dX9_adopt_417 : decode cX9_adopt 417 = .ok (.imul, 1) := by decide +kernel
theorem dX9_adopt_418 : decode cX9_adopt 418 = .ok (.iload 4, 2) := by decide +kernel
theorem dX9_adopt_420 : decode cX9_adopt 420 = .ok (.iadd, 1) := by decide +kernel
theorem dX9_adopt_421 : decode cX9_adopt 421 = .ok (.iaload, 1) := by decide +kernel
theorem dX9_adopt_422 : decode cX9_adopt 422 = .ok (.iadd, 1) := by decide +kernel
theorem dX9_adopt_423 : decode cX9_adopt 423 = .ok (.istore 5, 2) := by decide +kernel
theorem dX9_adopt_425 : decode cX9_adopt 425 = .ok (.iload_n 1, 1) := by decide +kernel
theorem dX9_adopt_426 : decode cX9_adopt 426 = .ok (.ifCond .ne 14, 3) := by decide +kernel
theorem dX9_adopt_429 : decode cX9_adopt 429 = .ok (.iload 5, 2) := by decide +kernel
theorem dX9_adopt_431 : decode cX9_adopt 431 = .ok (.aload_n 0, 1) := by decide +kernel
theorem dX9_adopt_432 : decode cX9_adopt 432 = .ok (.getfield 68, 3) := by decide +kernel
theorem dX9_adopt_435 : decode cX9_adopt 435 = .ok (.iload_n 3, 1) := by decide +kernel
theorem dX9_adopt_436 : decode cX9_adopt 436 = .ok (.iaload, 1) := by decide +kernel
theorem dX9_adopt_437 : decode cX9_adopt 437 = .ok (.if_icmp .le 7, 3) := by decide +kernel
theorem dX9_adopt_440 : decode cX9_adopt 440 = .ok (.iconst 1, 1) := by decide +kernel
theorem dX9_adopt_441 : decode cX9_adopt 441 = .ok (.goto 4, 3) := by decide +kernel
theorem dX9_adopt_444 : decode cX9_adopt 444 = .ok (.iconst 0, 1) := by decide +kernel
theorem dX9_adopt_445 : decode cX9_adopt 445 = .ok (.istore_n 1, 1) := by decide +kernel
theorem dX9_adopt_446 : decode cX9_adopt 446 = .ok (.iload 5, 2) := by decide +kernel
theorem dX9_adopt_448 : decode cX9_adopt 448 = .ok (.aload_n 0, 1) := by decide +kernel
theorem dX9_adopt_449 : decode cX9_adopt 449 = .ok (.getfield 68, 3) := by decide +kernel
theorem dX9_adopt_452 : decode cX9_adopt 452 = .ok (.iload_n 3, 1) := by decide +kernel
theorem dX9_adopt_453 : decode cX9_adopt 453 = .ok (.iaload, 1) := by decide +kernel
theorem dX9_adopt_454 : decode cX9_adopt 454 = .ok (.if_icmp .le 11, 3) := by decide +kernel
theorem dX9_adopt_457 : decode cX9_adopt 457 = .ok (.aload_n 0, 1) := by decide +kernel
theorem dX9_adopt_458 : decode cX9_adopt 458 = .ok (.getfield 68, 3) := by decide +kernel
theorem dX9_adopt_461 : decode cX9_adopt 461 = .ok (.iload_n 3, 1) := by decide +kernel
theorem dX9_adopt_462 : decode cX9_adopt 462 = .ok (.iload 5, 2) := by decide +kernel
theorem dX9_adopt_464 : decode cX9_adopt 464 = .ok (.iastore, 1) := by decide +kernel
theorem dX9_adopt_465 : decode cX9_adopt 465 = .ok (.iinc 4 1, 3) := by decide +kernel
theorem dX9_adopt_468 : decode cX9_adopt 468 = .ok (.goto (-105), 3) := by decide +kernel
theorem dX9_adopt_471 : decode cX9_adopt 471 = .ok (.iinc 2 1, 3) := by decide +kernel
theorem dX9_adopt_474 : decode cX9_adopt 474 = .ok (.goto (-132), 3) := by decide +kernel
theorem dX9_adopt_477 : decode cX9_adopt 477 = .ok (.goto (-143), 3) := by decide +kernel
theorem dX9_adopt_480 : decode cX9_adopt 480 = .ok (.return_, 1) := by decide +kernel
theorem dX9_fault_0 : decode cX9_fault 0 = .ok (.aload_n 0, 1) := by decide +kernel
theorem dX9_fault_1 : decode cX9_fault 1 = .ok (.iconst 0, 1) := by decide +kernel
theorem dX9_fault_2 : decode cX9_fault 2 = .ok (.putfield 89, 3) := by decide +kernel
theorem dX9_fault_5 : decode cX9_fault 5 = .ok (.iload_n 1, 1) := by decide +kernel
theorem dX9_fault_6 : decode cX9_fault 6 = .ok (.ifCond .ne 10, 3) := by decide +kernel
theorem dX9_fault_9 : decode cX9_fault 9 = .ok (.aload_n 0, 1) := by decide +kernel
theorem dX9_fault_10 : decode cX9_fault 10 = .ok (.getfield 104, 3) := by decide +kernel
theorem dX9_fault_13 : decode cX9_fault 13 = .ok (.goto 16, 3) := by decide +kernel
theorem dX9_fault_16 : decode cX9_fault 16 = .ok (.iload_n 1, 1) := by decide +kernel
theorem dX9_fault_17 : decode cX9_fault 17 = .ok (.iconst 1, 1) := by decide +kernel
theorem dX9_fault_18 : decode cX9_fault 18 = .ok (.if_icmp .ne 10, 3) := by decide +kernel
theorem dX9_fault_21 : decode cX9_fault 21 = .ok (.aload_n 0, 1) := by decide +kernel
theorem dX9_fault_22 : decode cX9_fault 22 = .ok (.getfield 107, 3) := by decide +kernel
theorem dX9_fault_25 : decode cX9_fault 25 = .ok (.goto 4, 3) := by decide +kernel
theorem dX9_fault_28 : decode cX9_fault 28 = .ok (.iconst (-1), 1) := by decide +kernel
theorem dX9_fault_29 : decode cX9_fault 29 = .ok (.ireturn, 1) := by decide +kernel
theorem dX9_termValue_0 : decode cX9_termValue 0 = .ok (.aload_n 0, 1) := by decide +kernel
theorem dX9_termValue_1 : decode cX9_termValue 1 = .ok (.getfield 56, 3) := by decide +kernel
theorem dX9_termValue_4 : decode cX9_termValue 4 = .ok (.iconst 3, 1) := by decide +kernel
theorem dX9_termValue_5 : decode cX9_termValue 5 = .ok (.iload_n 1, 1) := by decide +kernel
theorem dX9_termValue_6 : decode cX9_termValue 6 = .ok (.imul, 1) := by decide +kernel
theorem dX9_termValue_7 : decode cX9_termValue 7 = .ok (.iload_n 2, 1) := by decide +kernel
theorem dX9_termValue_8 : decode cX9_termValue 8 = .ok (.iadd, 1) := by decide +kernel
theorem dX9_termValue_9 : decode cX9_termValue 9 = .ok (.iaload, 1) := by decide +kernel
theorem dX9_termValue_10 : decode cX9_termValue 10 = .ok (.istore_n 3, 1) := by decide +kernel
theorem dX9_termValue_11 : decode cX9_termValue 11 = .ok (.iload_n 3, 1) := by decide +kernel
theorem dX9_termValue_12 : decode cX9_termValue 12 = .ok (.bipush 100, 2) := by decide +kernel
theorem dX9_termValue_14 : decode cX9_termValue 14 = .ok (.if_icmp .ge 7, 3) := by decide +kernel
theorem dX9_termValue_17 : decode cX9_termValue 17 = .ok (.iload_n 3, 1) := by decide +kernel
theorem dX9_termValue_18 : decode cX9_termValue 18 = .ok (.goto 12, 3) := by decide +kernel
theorem dX9_termValue_21 : decode cX9_termValue 21 = .ok (.aload_n 0, 1) := by decide +kernel
theorem dX9_termValue_22 : decode cX9_termValue 22 = .ok (.getfield 86, 3) := by decide +kernel
theorem dX9_termValue_25 : decode cX9_termValue 25 = .ok (.iload_n 3, 1) := by decide +kernel
theorem dX9_termValue_26 : decode cX9_termValue 26 = .ok (.bipush 100, 2) := by decide +kernel
theorem dX9_termValue_28 : decode cX9_termValue 28 = .ok (.isub, 1) := by decide +kernel
theorem dX9_termValue_29 : decode cX9_termValue 29 = .ok (.iaload, 1) := by decide +kernel
theorem dX9_termValue_30 : decode cX9_termValue 30 = .ok (.ireturn, 1) := by decide +kernel
theorem dX9_factOf_0 : decode cX9_factOf 0 = .ok (.iconst 0, 1) := by decide +kernel
theorem dX9_factOf_1 : decode cX9_factOf 1 = .ok (.istore_n 2, 1) := by decide +kernel
theorem dX9_factOf_2 : decode cX9_factOf 2 = .ok (.iconst 0, 1) := by decide +kernel
theorem dX9_factOf_3 : decode cX9_factOf 3 = .ok (.istore_n 3, 1) := by decide +kernel
theorem dX9_factOf_4 : decode cX9_factOf 4 = .ok (.iload_n 3, 1) := by decide +kernel
theorem dX9_factOf_5 : decode cX9_factOf 5 = .ok (.aload_n 0, 1) := by decide +kernel
theorem dX9_factOf_6 : decode cX9_factOf 6 = .ok (.getfield 53, 3) := by decide +kernel
theorem dX9_factOf_9 : decode cX9_factOf 9 = .ok (.iload_n 1, 1) := by decide +kernel
theorem dX9_factOf_10 : decode cX9_factOf 10 = .ok (.iaload, 1) := by decide +kernel
theorem dX9_factOf_11 : decode cX9_factOf 11 = .ok (.if_icmp .ge 21, 3) := by decide +kernel
theorem dX9_factOf_14 : decode cX9_factOf 14 = .ok (.bipush 12, 2) := by decide +kernel
theorem dX9_factOf_16 : decode cX9_factOf 16 = .ok (.iload_n 2, 1) := by decide +kernel
theorem dX9_factOf_17 : decode cX9_factOf 17 = .ok (.imul, 1) := by decide +kernel
theorem dX9_factOf_18 : decode cX9_factOf 18 = .ok (.aload_n 0, 1) := by decide +kernel
theorem dX9_factOf_19 : decode cX9_factOf 19 = .ok (.iload_n 1, 1) := by decide +kernel
theorem dX9_factOf_20 : decode cX9_factOf 20 = .ok (.iload_n 3, 1) := by decide +kernel
theorem dX9_factOf_21 : decode cX9_factOf 21 = .ok (.invokevirtual 216, 3) := by decide +kernel
theorem dX9_factOf_24 : decode cX9_factOf 24 = .ok (.iadd, 1) := by decide +kernel
theorem dX9_factOf_25 : decode cX9_factOf 25 = .ok (.istore_n 2, 1) := by decide +kernel
theorem dX9_factOf_26 : decode cX9_factOf 26 = .ok (.iinc 3 1, 3) := by decide +kernel
theorem dX9_factOf_29 : decode cX9_factOf 29 = .ok (.goto (-25), 3) := by decide +kernel
theorem dX9_factOf_32 : decode cX9_factOf 32 = .ok (.sipush 1728, 3) := by decide +kernel
theorem dX9_factOf_35 : decode cX9_factOf 35 = .ok (.aload_n 0, 1) := by decide +kernel
theorem dX9_factOf_36 : decode cX9_factOf 36 = .ok (.getfield 50, 3) := by decide +kernel
theorem dX9_factOf_39 : decode cX9_factOf 39 = .ok (.iload_n 1, 1) := by decide +kernel
theorem dX9_factOf_40 : decode cX9_factOf 40 = .ok (.iaload, 1) := by decide +kernel
theorem dX9_factOf_41 : decode cX9_factOf 41 = .ok (.imul, 1) := by decide +kernel
theorem dX9_factOf_42 : decode cX9_factOf 42 = .ok (.iload_n 2, 1) := by decide +kernel
theorem dX9_factOf_43 : decode cX9_factOf 43 = .ok (.iadd, 1) := by decide +kernel
theorem dX9_factOf_44 : decode cX9_factOf 44 = .ok (.ireturn, 1) := by decide +kernel
theorem dX9_isSo_0 : decode cX9_isSo 0 = .ok (.aload_n 0, 1) := by decide +kernel
theorem dX9_isSo_1 : decode cX9_isSo 1 = .ok (.getfield 47, 3) := by decide +kernel
theorem dX9_isSo_4 : decode cX9_isSo 4 = .ok (.iload_n 1, 1) := by decide +kernel
theorem dX9_isSo_5 : decode cX9_isSo 5 = .ok (.iaload, 1) := by decide +kernel
theorem dX9_isSo_6 : decode cX9_isSo 6 = .ok (.tableswitch 102 0 3 #[30, 41, 60, 81], 30) := by decide +kernel
theorem dX9_isSo_36 : decode cX9_isSo 36 = .ok (.aload_n 0, 1) := by decide +kernel
theorem dX9_isSo_37 : decode cX9_isSo 37 = .ok (.getfield 71, 3) := by decide +kernel
theorem dX9_isSo_40 : decode cX9_isSo 40 = .ok (.aload_n 0, 1) := by decide +kernel
theorem dX9_isSo_41 : decode cX9_isSo 41 = .ok (.iload_n 1, 1) := by decide +kernel
theorem dX9_isSo_42 : decode cX9_isSo 42 = .ok (.invokevirtual 219, 3) := by decide +kernel
theorem dX9_isSo_45 : decode cX9_isSo 45 = .ok (.baload, 1) := by decide +kernel
theorem dX9_isSo_46 : decode cX9_isSo 46 = .ok (.ireturn, 1) := by decide +kernel
theorem dX9_isSo_47 : decode cX9_isSo 47 = .ok (.aload_n 0, 1) := by decide +kernel
theorem dX9_isSo_48 : decode cX9_isSo 48 = .ok (.getfield 71, 3) := by decide +kernel
theorem dX9_isSo_51 : decode cX9_isSo 51 = .ok (.aload_n 0, 1) := by decide +kernel
theorem dX9_isSo_52 : decode cX9_isSo 52 = .ok (.iload_n 1, 1) := by decide +kernel
theorem dX9_isSo_53 : decode cX9_isSo 53 = .ok (.invokevirtual 219, 3) := by decide +kernel
theorem dX9_isSo_56 : decode cX9_isSo 56 = .ok (.baload, 1) := by decide +kernel
theorem dX9_isSo_57 : decode cX9_isSo 57 = .ok (.ifCond .ne 7, 3) := by decide +kernel
theorem dX9_isSo_60 : decode cX9_isSo 60 = .ok (.iconst 1, 1) := by decide +kernel
theorem dX9_isSo_61 : decode cX9_isSo 61 = .ok (.goto 4, 3) := by decide +kernel
theorem dX9_isSo_64 : decode cX9_isSo 64 = .ok (.iconst 0, 1) := by decide +kernel
theorem dX9_isSo_65 : decode cX9_isSo 65 = .ok (.ireturn, 1) := by decide +kernel
theorem dX9_isSo_66 : decode cX9_isSo 66 = .ok (.aload_n 0, 1) := by decide +kernel
theorem dX9_isSo_67 : decode cX9_isSo 67 = .ok (.iload_n 1, 1) := by decide +kernel
theorem dX9_isSo_68 : decode cX9_isSo 68 = .ok (.iconst 0, 1) := by decide +kernel
theorem dX9_isSo_69 : decode cX9_isSo 69 = .ok (.invokevirtual 216, 3) := by decide +kernel
theorem dX9_isSo_72 : decode cX9_isSo 72 = .ok (.aload_n 0, 1) := by decide +kernel
theorem dX9_isSo_73 : decode cX9_isSo 73 = .ok (.iload_n 1, 1) := by decide +kernel
theorem dX9_isSo_74 : decode cX9_isSo 74 = .ok (.iconst 1, 1) := by decide +kernel
theorem dX9_isSo_75 : decode cX9_isSo 75 = .ok (.invokevirtual 216, 3) := by decide +kernel
theorem dX9_isSo_78 : decode cX9_isSo 78 = .ok (.if_icmp .ne 7, 3) := by decide +kernel
theorem dX9_isSo_81 : decode cX9_isSo 81 = .ok (.iconst 1, 1) := by decide +kernel
theorem dX9_isSo_82 : decode cX9_isSo 82 = .ok (.goto 4, 3) := by decide +kernel
theorem dX9_isSo_85 : decode cX9_isSo 85 = .ok (.iconst 0, 1) := by decide +kernel
theorem dX9_isSo_86 : decode cX9_isSo 86 = .ok (.ireturn, 1) := by decide +kernel
theorem dX9_isSo_87 : decode cX9_isSo 87 = .ok (.aload_n 0, 1) := by decide +kernel
theorem dX9_isSo_88 : decode cX9_isSo 88 = .ok (.iload_n 1, 1) := by decide +kernel
theorem dX9_isSo_89 : decode cX9_isSo 89 = .ok (.iconst 0, 1) := by decide +kernel
theorem dX9_isSo_90 : decode cX9_isSo 90 = .ok (.invokevirtual 216, 3) := by decide +kernel
theorem dX9_isSo_93 : decode cX9_isSo 93 = .ok (.aload_n 0, 1) := by decide +kernel
theorem dX9_isSo_94 : decode cX9_isSo 94 = .ok (.iload_n 1, 1) := by decide +kernel
theorem dX9_isSo_95 : decode cX9_isSo 95 = .ok (.iconst 1, 1) := by decide +kernel
theorem dX9_isSo_96 : decode cX9_isSo 96 = .ok (.invokevirtual 216, 3) := by decide +kernel
theorem dX9_isSo_99 : decode cX9_isSo 99 = .ok (.if_icmp .eq 7, 3) := by decide +kernel
theorem dX9_isSo_102 : decode cX9_isSo 102 = .ok (.iconst 1, 1) := by decide +kernel
theorem dX9_isSo_103 : decode cX9_isSo 103 = .ok (.goto 4, 3) := by decide +kernel
theorem dX9_isSo_106 : decode cX9_isSo 106 = .ok (.iconst 0, 1) := by decide +kernel
theorem dX9_isSo_107 : decode cX9_isSo 107 = .ok (.ireturn, 1) := by decide +kernel
theorem dX9_isSo_108 : decode cX9_isSo 108 = .ok (.aload_n 0, 1) := by decide +kernel
theorem dX9_isSo_109 : decode cX9_isSo 109 = .ok (.iload_n 1, 1) := by decide +kernel
theorem dX9_isSo_110 : decode cX9_isSo 110 = .ok (.iconst 0, 1) := by decide +kernel
theorem dX9_isSo_111 : decode cX9_isSo 111 = .ok (.invokevirtual 216, 3) := by decide +kernel
theorem dX9_isSo_114 : decode cX9_isSo 114 = .ok (.aload_n 0, 1) := by decide +kernel
theorem dX9_isSo_115 : decode cX9_isSo 115 = .ok (.iload_n 1, 1) := by decide +kernel
theorem dX9_isSo_116 : decode cX9_isSo 116 = .ok (.iconst 1, 1) := by decide +kernel
theorem dX9_isSo_117 : decode cX9_isSo 117 = .ok (.invokevirtual 216, 3) := by decide +kernel
theorem dX9_isSo_120 : decode cX9_isSo 120 = .ok (.if_icmp .ge 7, 3) := by decide +kernel
theorem dX9_isSo_123 : decode cX9_isSo 123 = .ok (.iconst 1, 1) := by decide +kernel
theorem dX9_isSo_124 : decode cX9_isSo 124 = .ok (.goto 4, 3) := by decide +kernel
theorem dX9_isSo_127 : decode cX9_isSo 127 = .ok (.iconst 0, 1) := by decide +kernel
theorem dX9_isSo_128 : decode cX9_isSo 128 = .ok (.ireturn, 1) := by decide +kernel
theorem dX9_lastVariable_0 : decode cX9_lastVariable 0 = .ok (.iconst (-1), 1) := by decide +kernel
theorem dX9_lastVariable_1 : decode cX9_lastVariable 1 = .ok (.istore_n 2, 1) := by decide +kernel
theorem dX9_lastVariable_2 : decode cX9_lastVariable 2 = .ok (.iconst 0, 1) := by decide +kernel
theorem dX9_lastVariable_3 : decode cX9_lastVariable 3 = .ok (.istore_n 3, 1) := by decide +kernel
theorem dX9_lastVariable_4 : decode cX9_lastVariable 4 = .ok (.iload_n 3, 1) := by decide +kernel
theorem dX9_lastVariable_5 : decode cX9_lastVariable 5 = .ok (.aload_n 0, 1) := by decide +kernel
theorem dX9_lastVariable_6 : decode cX9_lastVariable 6 = .ok (.getfield 53, 3) := by decide +kernel
theorem dX9_lastVariable_9 : decode cX9_lastVariable 9 = .ok (.iload_n 1, 1) := by decide +kernel
theorem dX9_lastVariable_10 : decode cX9_lastVariable 10 = .ok (.iaload, 1) := by decide +kernel
theorem dX9_lastVariable_11 : decode cX9_lastVariable 11 = .ok (.if_icmp .ge 59, 3) := by decide +kernel
theorem dX9_lastVariable_14 : decode cX9_lastVariable 14 = .ok (.aload_n 0, 1) := by decide +kernel
theorem dX9_lastVariable_15 : decode cX9_lastVariable 15 = .ok (.getfield 56, 3) := by decide +kernel
theorem dX9_lastVariable_18 : decode cX9_lastVariable 18 = .ok (.iconst 3, 1) := by decide +kernel
theorem dX9_lastVariable_19 : decode cX9_lastVariable 19 = .ok (.iload_n 1, 1) := by decide +kernel
theorem dX9_lastVariable_20 : decode cX9_lastVariable 20 = .ok (.imul, 1) := by decide +kernel
theorem dX9_lastVariable_21 : decode cX9_lastVariable 21 = .ok (.iload_n 3, 1) := by decide +kernel
theorem dX9_lastVariable_22 : decode cX9_lastVariable 22 = .ok (.iadd, 1) := by decide +kernel
theorem dX9_lastVariable_23 : decode cX9_lastVariable 23 = .ok (.iaload, 1) := by decide +kernel
theorem dX9_lastVariable_24 : decode cX9_lastVariable 24 = .ok (.bipush 100, 2) := by decide +kernel
theorem dX9_lastVariable_26 : decode cX9_lastVariable 26 = .ok (.if_icmp .lt 36, 3) := by decide +kernel
theorem dX9_lastVariable_29 : decode cX9_lastVariable 29 = .ok (.aload_n 0, 1) := by decide +kernel
theorem dX9_lastVariable_30 : decode cX9_lastVariable 30 = .ok (.getfield 56, 3) := by decide +kernel
theorem dX9_lastVariable_33 : decode cX9_lastVariable 33 = .ok (.iconst 3, 1) := by decide +kernel
theorem dX9_lastVariable_34 : decode cX9_lastVariable 34 = .ok (.iload_n 1, 1) := by decide +kernel
theorem dX9_lastVariable_35 : decode cX9_lastVariable 35 = .ok (.imul, 1) := by decide +kernel
theorem dX9_lastVariable_36 : decode cX9_lastVariable 36 = .ok (.iload_n 3, 1) := by decide +kernel
theorem dX9_lastVariable_37 : decode cX9_lastVariable 37 = .ok (.iadd, 1) := by decide +kernel
theorem dX9_lastVariable_38 : decode cX9_lastVariable 38 = .ok (.iaload, 1) := by decide +kernel
theorem dX9_lastVariable_39 : decode cX9_lastVariable 39 = .ok (.bipush 100, 2) := by decide +kernel
theorem dX9_lastVariable_41 : decode cX9_lastVariable 41 = .ok (.isub, 1) := by decide +kernel
theorem dX9_lastVariable_42 : decode cX9_lastVariable 42 = .ok (.iload_n 2, 1) := by decide +kernel
theorem dX9_lastVariable_43 : decode cX9_lastVariable 43 = .ok (.if_icmp .le 19, 3) := by decide +kernel
theorem dX9_lastVariable_46 : decode cX9_lastVariable 46 = .ok (.aload_n 0, 1) := by decide +kernel
theorem dX9_lastVariable_47 : decode cX9_lastVariable 47 = .ok (.getfield 56, 3) := by decide +kernel
theorem dX9_lastVariable_50 : decode cX9_lastVariable 50 = .ok (.iconst 3, 1) := by decide +kernel
theorem dX9_lastVariable_51 : decode cX9_lastVariable 51 = .ok (.iload_n 1, 1) := by decide +kernel
theorem dX9_lastVariable_52 : decode cX9_lastVariable 52 = .ok (.imul, 1) := by decide +kernel
theorem dX9_lastVariable_53 : decode cX9_lastVariable 53 = .ok (.iload_n 3, 1) := by decide +kernel
theorem dX9_lastVariable_54 : decode cX9_lastVariable 54 = .ok (.iadd, 1) := by decide +kernel
theorem dX9_lastVariable_55 : decode cX9_lastVariable 55 = .ok (.iaload, 1) := by decide +kernel
theorem dX9_lastVariable_56 : decode cX9_lastVariable 56 = .ok (.bipush 100, 2) := by decide +kernel
theorem dX9_lastVariable_58 : decode cX9_lastVariable 58 = .ok (.isub, 1) := by decide +kernel
theorem dX9_lastVariable_59 : decode cX9_lastVariable 59 = .ok (.goto 4, 3) := by decide +kernel
theorem dX9_lastVariable_62 : decode cX9_lastVariable 62 = .ok (.iload_n 2, 1) := by decide +kernel
theorem dX9_lastVariable_63 : decode cX9_lastVariable 63 = .ok (.istore_n 2, 1) := by decide +kernel
theorem dX9_lastVariable_64 : decode cX9_lastVariable 64 = .ok (.iinc 3 1, 3) := by decide +kernel
theorem dX9_lastVariable_67 : decode cX9_lastVariable 67 = .ok (.goto (-63), 3) := by decide +kernel
theorem dX9_lastVariable_70 : decode cX9_lastVariable 70 = .ok (.iload_n 2, 1) := by decide +kernel
theorem dX9_lastVariable_71 : decode cX9_lastVariable 71 = .ok (.ireturn, 1) := by decide +kernel
theorem dX9_goes_0 : decode cX9_goes 0 = .ok (.iconst 1, 1) := by decide +kernel
theorem dX9_goes_1 : decode cX9_goes 1 = .ok (.istore_n 3, 1) := by decide +kernel
theorem dX9_goes_2 : decode cX9_goes 2 = .ok (.iload_n 3, 1) := by decide +kernel
theorem dX9_goes_3 : decode cX9_goes 3 = .ok (.aload_n 0, 1) := by decide +kernel
theorem dX9_goes_4 : decode cX9_goes 4 = .ok (.getfield 44, 3) := by decide +kernel
theorem dX9_goes_7 : decode cX9_goes 7 = .ok (.iload_n 1, 1) := by decide +kernel
theorem dX9_goes_8 : decode cX9_goes 8 = .ok (.iaload, 1) := by decide +kernel
theorem dX9_goes_9 : decode cX9_goes 9 = .ok (.if_icmp .gt 40, 3) := by decide +kernel
theorem dX9_goes_12 : decode cX9_goes 12 = .ok (.aload_n 0, 1) := by decide +kernel
theorem dX9_goes_13 : decode cX9_goes 13 = .ok (.bipush 6, 2) := by decide +kernel
theorem dX9_goes_15 : decode cX9_goes 15 = .ok (.iload_n 1, 1) := by decide +kernel
theorem dX9_goes_16 : decode cX9_goes 16 = .ok (.imul, 1) := by decide +kernel
theorem dX9_goes_17 : decode cX9_goes 17 = .ok (.iload_n 3, 1) := by decide +kernel
theorem dX9_goes_18 : decode cX9_goes 18 = .ok (.iadd, 1) := by decide +kernel
theorem dX9_goes_19 : decode cX9_goes 19 = .ok (.invokevirtual 222, 3) := by decide +kernel
theorem dX9_goes_22 : decode cX9_goes 22 = .ok (.iload_n 2, 1) := by decide +kernel
theorem dX9_goes_23 : decode cX9_goes 23 = .ok (.iconst 1, 1) := by decide +kernel
theorem dX9_goes_24 : decode cX9_goes 24 = .ok (.isub, 1) := by decide +kernel
theorem dX9_goes_25 : decode cX9_goes 25 = .ok (.if_icmp .ne 18, 3) := by decide +kernel
theorem dX9_goes_28 : decode cX9_goes 28 = .ok (.aload_n 0, 1) := by decide +kernel
theorem dX9_goes_29 : decode cX9_goes 29 = .ok (.bipush 6, 2) := by decide +kernel
theorem dX9_goes_31 : decode cX9_goes 31 = .ok (.iload_n 1, 1) := by decide +kernel
theorem dX9_goes_32 : decode cX9_goes 32 = .ok (.imul, 1) := by decide +kernel
theorem dX9_goes_33 : decode cX9_goes 33 = .ok (.iload_n 3, 1) := by decide +kernel
theorem dX9_goes_34 : decode cX9_goes 34 = .ok (.iadd, 1) := by decide +kernel
theorem dX9_goes_35 : decode cX9_goes 35 = .ok (.invokevirtual 225, 3) := by decide +kernel
theorem dX9_goes_38 : decode cX9_goes 38 = .ok (.ifCond .ne 5, 3) := by decide +kernel
theorem dX9_goes_41 : decode cX9_goes 41 = .ok (.iconst 0, 1) := by decide +kernel
theorem dX9_goes_42 : decode cX9_goes 42 = .ok (.ireturn, 1) := by decide +kernel
theorem dX9_goes_43 : decode cX9_goes 43 = .ok (.iinc 3 1, 3) := by decide +kernel
theorem dX9_goes_46 : decode cX9_goes 46 = .ok (.goto (-44), 3) := by decide +kernel
theorem dX9_goes_49 : decode cX9_goes 49 = .ok (.iconst 1, 1) := by decide +kernel
theorem dX9_goes_50 : decode cX9_goes 50 = .ok (.ireturn, 1) := by decide +kernel
theorem dX9_found_0 : decode cX9_found 0 = .ok (.aload_n 0, 1) := by decide +kernel
theorem dX9_found_1 : decode cX9_found 1 = .ok (.bipush 6, 2) := by decide +kernel
theorem dX9_found_3 : decode cX9_found 3 = .ok (.iload_n 1, 1) := by decide +kernel
theorem dX9_found_4 : decode cX9_found 4 = .ok (.imul, 1) := by decide +kernel
theorem dX9_found_5 : decode cX9_found 5 = .ok (.invokevirtual 219, 3) := by decide +kernel
theorem dX9_found_8 : decode cX9_found 8 = .ok (.istore_n 2, 1) := by decide +kernel
theorem dX9_found_9 : decode cX9_found 9 = .ok (.aload_n 0, 1) := by decide +kernel
theorem dX9_found_10 : decode cX9_found 10 = .ok (.getfield 228, 3) := by decide +kernel
theorem dX9_found_13 : decode cX9_found 13 = .ok (.iconst (-1), 1) := by decide +kernel
theorem dX9_found_14 : decode cX9_found 14 = .ok (.if_icmp .ne 38, 3) := by decide +kernel
theorem dX9_found_17 : decode cX9_found 17 = .ok (.aload_n 0, 1) := by decide +kernel
theorem dX9_found_18 : decode cX9_found 18 = .ok (.aload_n 0, 1) := by decide +kernel
theorem dX9_found_19 : decode cX9_found 19 = .ok (.getfield 231, 3) := by decide +kernel
theorem dX9_found_22 : decode cX9_found 22 = .ok (.ifCond .ne 12, 3) := by decide +kernel
theorem dX9_found_25 : decode cX9_found 25 = .ok (.aload_n 0, 1) := by decide +kernel
theorem dX9_found_26 : decode cX9_found 26 = .ok (.getfield 71, 3) := by decide +kernel
theorem dX9_found_29 : decode cX9_found 29 = .ok (.iload_n 2, 1) := by decide +kernel
theorem dX9_found_30 : decode cX9_found 30 = .ok (.baload, 1) := by decide +kernel
theorem dX9_found_31 : decode cX9_found 31 = .ok (.ifCond .ne 7, 3) := by decide +kernel
theorem dX9_found_34 : decode cX9_found 34 = .ok (.iconst 1, 1) := by decide +kernel
theorem dX9_found_35 : decode cX9_found 35 = .ok (.goto 4, 3) := by decide +kernel
theorem dX9_found_38 : decode cX9_found 38 = .ok (.iconst 0, 1) := by decide +kernel
theorem dX9_found_39 : decode cX9_found 39 = .ok (.putfield 231, 3) := by decide +kernel
theorem dX9_found_42 : decode cX9_found 42 = .ok (.aload_n 0, 1) := by decide +kernel
theorem dX9_found_43 : decode cX9_found 43 = .ok (.getfield 71, 3) := by decide +kernel
theorem dX9_found_46 : decode cX9_found 46 = .ok (.iload_n 2, 1) := by decide +kernel
theorem dX9_found_47 : decode cX9_found 47 = .ok (.iconst 1, 1) := by decide +kernel
theorem dX9_found_48 : decode cX9_found 48 = .ok (.bastore, 1) := by decide +kernel
theorem dX9_found_49 : decode cX9_found 49 = .ok (.goto 21, 3) := by decide +kernel
theorem dX9_found_52 : decode cX9_found 52 = .ok (.iload_n 2, 1) := by decide +kernel
theorem dX9_found_53 : decode cX9_found 53 = .ok (.aload_n 0, 1) := by decide +kernel
theorem dX9_found_54 : decode cX9_found 54 = .ok (.getfield 228, 3) := by decide +kernel
theorem dX9_found_57 : decode cX9_found 57 = .ok (.if_icmp .ne 13, 3) := by decide +kernel
theorem dX9_found_60 : decode cX9_found 60 = .ok (.aload_n 0, 1) := by decide +kernel
theorem dX9_found_61 : decode cX9_found 61 = .ok (.dup, 1) := by decide +kernel
theorem dX9_found_62 : decode cX9_found 62 = .ok (.getfield 234, 3) := by decide +kernel
theorem dX9_found_65 : decode cX9_found 65 = .ok (.iconst 1, 1) := by decide +kernel
theorem dX9_found_66 : decode cX9_found 66 = .ok (.iadd, 1) := by decide +kernel
theorem dX9_found_67 : decode cX9_found 67 = .ok (.putfield 234, 3) := by decide +kernel
theorem dX9_found_70 : decode cX9_found 70 = .ok (.return_, 1) := by decide +kernel
theorem dX9_tryAll_0 : decode cX9_tryAll 0 = .ok (.aload_n 0, 1) := by decide +kernel
theorem dX9_tryAll_1 : decode cX9_tryAll 1 = .ok (.getfield 59, 3) := by decide +kernel
theorem dX9_tryAll_4 : decode cX9_tryAll 4 = .ok (.iload_n 1, 1) := by decide +kernel
theorem dX9_tryAll_5 : decode cX9_tryAll 5 = .ok (.iaload, 1) := by decide +kernel
theorem dX9_tryAll_6 : decode cX9_tryAll 6 = .ok (.istore_n 2, 1) := by decide +kernel
theorem dX9_tryAll_7 : decode cX9_tryAll 7 = .ok (.aload_n 0, 1) := by decide +kernel
theorem dX9_tryAll_8 : decode cX9_tryAll 8 = .ok (.iload_n 1, 1) := by decide +kernel
theorem dX9_tryAll_9 : decode cX9_tryAll 9 = .ok (.iconst 0, 1) := by decide +kernel
theorem dX9_tryAll_10 : decode cX9_tryAll 10 = .ok (.invokevirtual 237, 3) := by decide +kernel
theorem dX9_tryAll_13 : decode cX9_tryAll 13 = .ok (.ifCond .ne 4, 3) := by decide +kernel
theorem dX9_tryAll_16 : decode cX9_tryAll 16 = .ok (.return_, 1) := by decide +kernel
theorem dX9_tryAll_17 : decode cX9_tryAll 17 = .ok (.iconst 0, 1) := by decide +kernel
theorem dX9_tryAll_18 : decode cX9_tryAll 18 = .ok (.istore_n 3, 1) := by decide +kernel
theorem dX9_tryAll_19 : decode cX9_tryAll 19 = .ok (.aload_n 0, 1) := by decide +kernel
theorem dX9_tryAll_20 : decode cX9_tryAll 20 = .ok (.getfield 86, 3) := by decide +kernel
theorem dX9_tryAll_23 : decode cX9_tryAll 23 = .ok (.iconst 0, 1) := by decide +kernel
theorem dX9_tryAll_24 : decode cX9_tryAll 24 = .ok (.iconst (-1), 1) := by decide +kernel
theorem dX9_tryAll_25 : decode cX9_tryAll 25 = .ok (.iastore, 1) := by decide +kernel
theorem dX9_tryAll_26 : decode cX9_tryAll 26 = .ok (.iload_n 2, 1) := by decide +kernel
theorem dX9_tryAll_27 : decode cX9_tryAll 27 = .ok (.ifCond .ne 9, 3) := by decide +kernel
theorem dX9_tryAll_30 : decode cX9_tryAll 30 = .ok (.aload_n 0, 1) := by decide +kernel
theorem dX9_tryAll_31 : decode cX9_tryAll 31 = .ok (.iload_n 1, 1) := by decide +kernel
theorem dX9_tryAll_32 : decode cX9_tryAll 32 = .ok (.invokevirtual 240, 3) := by decide +kernel
theorem dX9_tryAll_35 : decode cX9_tryAll 35 = .ok (.return_, 1) := by decide +kernel
theorem dX9_tryAll_36 : decode cX9_tryAll 36 = .ok (.iload_n 3, 1) := by decide +kernel
theorem dX9_tryAll_37 : decode cX9_tryAll 37 = .ok (.ifCond .lt 69, 3) := by decide +kernel
theorem dX9_tryAll_40 : decode cX9_tryAll 40 = .ok (.aload_n 0, 1) := by decide +kernel
theorem dX9_tryAll_41 : decode cX9_tryAll 41 = .ok (.getfield 86, 3) := by decide +kernel
theorem dX9_tryAll_44 : decode cX9_tryAll 44 = .ok (.iload_n 3, 1) := by decide +kernel
theorem dX9_tryAll_45 : decode cX9_tryAll 45 = .ok (.dup2, 1) := by decide +kernel
theorem dX9_tryAll_46 : decode cX9_tryAll 46 = .ok (.iaload, 1) := by decide +kernel
theorem dX9_tryAll_47 : decode cX9_tryAll 47 = .ok (.iconst 1, 1) := by decide +kernel
theorem dX9_tryAll_48 : decode cX9_tryAll 48 = .ok (.iadd, 1) := by decide +kernel
theorem dX9_tryAll_49 : decode cX9_tryAll 49 = .ok (.iastore, 1) := by decide +kernel
theorem dX9_tryAll_50 : decode cX9_tryAll 50 = .ok (.aload_n 0, 1) := by decide +kernel
theorem dX9_tryAll_51 : decode cX9_tryAll 51 = .ok (.getfield 86, 3) := by decide +kernel
theorem dX9_tryAll_54 : decode cX9_tryAll 54 = .ok (.iload_n 3, 1) := by decide +kernel
theorem dX9_tryAll_55 : decode cX9_tryAll 55 = .ok (.iaload, 1) := by decide +kernel
theorem dX9_tryAll_56 : decode cX9_tryAll 56 = .ok (.bipush 12, 2) := by decide +kernel
theorem dX9_tryAll_58 : decode cX9_tryAll 58 = .ok (.if_icmp .ne 9, 3) := by decide +kernel
theorem dX9_tryAll_61 : decode cX9_tryAll 61 = .ok (.iinc 3 (-1), 3) := by decide +kernel
theorem dX9_tryAll_64 : decode cX9_tryAll 64 = .ok (.goto (-28), 3) := by decide +kernel
theorem dX9_tryAll_67 : decode cX9_tryAll 67 = .ok (.aload_n 0, 1) := by decide +kernel
theorem dX9_tryAll_68 : decode cX9_tryAll 68 = .ok (.iload_n 1, 1) := by decide +kernel
theorem dX9_tryAll_69 : decode cX9_tryAll 69 = .ok (.iload_n 3, 1) := by decide +kernel
theorem dX9_tryAll_70 : decode cX9_tryAll 70 = .ok (.iconst 1, 1) := by decide +kernel
theorem dX9_tryAll_71 : decode cX9_tryAll 71 = .ok (.iadd, 1) := by decide +kernel
theorem dX9_tryAll_72 : decode cX9_tryAll 72 = .ok (.invokevirtual 237, 3) := by decide +kernel
theorem dX9_tryAll_75 : decode cX9_tryAll 75 = .ok (.ifCond .eq (-39), 3) := by decide +kernel
theorem dX9_tryAll_78 : decode cX9_tryAll 78 = .ok (.iload_n 3, 1) := by decide +kernel
theorem dX9_tryAll_79 : decode cX9_tryAll 79 = .ok (.iconst 1, 1) := by decide +kernel
theorem dX9_tryAll_80 : decode cX9_tryAll 80 = .ok (.iadd, 1) := by decide +kernel
theorem dX9_tryAll_81 : decode cX9_tryAll 81 = .ok (.iload_n 2, 1) := by decide +kernel
theorem dX9_tryAll_82 : decode cX9_tryAll 82 = .ok (.if_icmp .ne 11, 3) := by decide +kernel
theorem dX9_tryAll_85 : decode cX9_tryAll 85 = .ok (.aload_n 0, 1) := by decide +kernel
theorem dX9_tryAll_86 : decode cX9_tryAll 86 = .ok (.iload_n 1, 1) := by decide +kernel
theorem dX9_tryAll_87 : decode cX9_tryAll 87 = .ok (.invokevirtual 240, 3) := by decide +kernel
theorem dX9_tryAll_90 : decode cX9_tryAll 90 = .ok (.goto (-54), 3) := by decide +kernel
theorem dX9_tryAll_93 : decode cX9_tryAll 93 = .ok (.iinc 3 1, 3) := by decide +kernel
theorem dX9_tryAll_96 : decode cX9_tryAll 96 = .ok (.aload_n 0, 1) := by decide +kernel
theorem dX9_tryAll_97 : decode cX9_tryAll 97 = .ok (.getfield 86, 3) := by decide +kernel
theorem dX9_tryAll_100 : decode cX9_tryAll 100 = .ok (.iload_n 3, 1) := by decide +kernel
theorem dX9_tryAll_101 : decode cX9_tryAll 101 = .ok (.iconst (-1), 1) := by decide +kernel
theorem dX9_tryAll_102 : decode cX9_tryAll 102 = .ok (.iastore, 1) := by decide +kernel
theorem dX9_tryAll_103 : decode cX9_tryAll 103 = .ok (.goto (-67), 3) := by decide +kernel
theorem dX9_tryAll_106 : decode cX9_tryAll 106 = .ok (.return_, 1) := by decide +kernel
theorem dX9_derive_0 : decode cX9_derive 0 = .ok (.iconst 0, 1) := by decide +kernel
theorem dX9_derive_1 : decode cX9_derive 1 = .ok (.istore_n 1, 1) := by decide +kernel
theorem dX9_derive_2 : decode cX9_derive 2 = .ok (.iload_n 1, 1) := by decide +kernel
theorem dX9_derive_3 : decode cX9_derive 3 = .ok (.bipush 10, 2) := by decide +kernel
theorem dX9_derive_5 : decode cX9_derive 5 = .ok (.if_icmp .ge 47, 3) := by decide +kernel
theorem dX9_derive_8 : decode cX9_derive 8 = .ok (.iconst 0, 1) := by decide +kernel
theorem dX9_derive_9 : decode cX9_derive 9 = .ok (.istore_n 2, 1) := by decide +kernel
theorem dX9_derive_10 : decode cX9_derive 10 = .ok (.iload_n 2, 1) := by decide +kernel
theorem dX9_derive_11 : decode cX9_derive 11 = .ok (.sipush 1728, 3) := by decide +kernel
theorem dX9_derive_14 : decode cX9_derive 14 = .ok (.if_icmp .ge 32, 3) := by decide +kernel
theorem dX9_derive_17 : decode cX9_derive 17 = .ok (.aload_n 0, 1) := by decide +kernel
theorem dX9_derive_18 : decode cX9_derive 18 = .ok (.getfield 62, 3) := by decide +kernel
theorem dX9_derive_21 : decode cX9_derive 21 = .ok (.iload_n 1, 1) := by decide +kernel
theorem dX9_derive_22 : decode cX9_derive 22 = .ok (.iaload, 1) := by decide +kernel
theorem dX9_derive_23 : decode cX9_derive 23 = .ok (.iconst 2, 1) := by decide +kernel
theorem dX9_derive_24 : decode cX9_derive 24 = .ok (.if_icmp .ne 22, 3) := by decide +kernel
theorem dX9_derive_27 : decode cX9_derive 27 = .ok (.aload_n 0, 1) := by decide +kernel
theorem dX9_derive_28 : decode cX9_derive 28 = .ok (.getfield 71, 3) := by decide +kernel
theorem dX9_derive_31 : decode cX9_derive 31 = .ok (.sipush 1728, 3) := by decide +kernel
theorem dX9_derive_34 : decode cX9_derive 34 = .ok (.iload_n 1, 1) := by decide +kernel
theorem dX9_derive_35 : decode cX9_derive 35 = .ok (.imul, 1) := by decide +kernel
theorem dX9_derive_36 : decode cX9_derive 36 = .ok (.iload_n 2, 1) := by decide +kernel
theorem dX9_derive_37 : decode cX9_derive 37 = .ok (.iadd, 1) := by decide +kernel
theorem dX9_derive_38 : decode cX9_derive 38 = .ok (.iconst 0, 1) := by decide +kernel
theorem dX9_derive_39 : decode cX9_derive 39 = .ok (.bastore, 1) := by decide +kernel
theorem dX9_derive_40 : decode cX9_derive 40 = .ok (.iinc 2 1, 3) := by decide +kernel
theorem dX9_derive_43 : decode cX9_derive 43 = .ok (.goto (-33), 3) := by decide +kernel
theorem dX9_derive_46 : decode cX9_derive 46 = .ok (.iinc 1 1, 3) := by decide +kernel
theorem dX9_derive_49 : decode cX9_derive 49 = .ok (.goto (-47), 3) := by decide +kernel
theorem dX9_derive_52 : decode cX9_derive 52 = .ok (.aload_n 0, 1) := by decide +kernel
theorem dX9_derive_53 : decode cX9_derive 53 = .ok (.iconst (-1), 1) := by decide +kernel
theorem dX9_derive_54 : decode cX9_derive 54 = .ok (.putfield 228, 3) := by decide +kernel
theorem dX9_derive_57 : decode cX9_derive 57 = .ok (.iconst 1, 1) := by decide +kernel
theorem dX9_derive_58 : decode cX9_derive 58 = .ok (.istore_n 1, 1) := by decide +kernel
theorem dX9_derive_59 : decode cX9_derive 59 = .ok (.iload_n 1, 1) := by decide +kernel
theorem dX9_derive_60 : decode cX9_derive 60 = .ok (.bipush 10, 2) := by decide +kernel
theorem dX9_derive_62 : decode cX9_derive 62 = .ok (.if_icmp .gt 68, 3) := by decide +kernel
theorem dX9_derive_65 : decode cX9_derive 65 = .ok (.aload_n 0, 1) := by decide +kernel
theorem dX9_derive_66 : decode cX9_derive 66 = .ok (.iconst 1, 1) := by decide +kernel
theorem dX9_derive_67 : decode cX9_derive 67 = .ok (.putfield 231, 3) := by decide +kernel
theorem dX9_derive_70 : decode cX9_derive 70 = .ok (.aload_n 0, 1) := by decide +kernel
theorem dX9_derive_71 : decode cX9_derive 71 = .ok (.getfield 231, 3) := by decide +kernel
theorem dX9_derive_74 : decode cX9_derive 74 = .ok (.ifCond .eq 50, 3) := by decide +kernel
theorem dX9_derive_77 : decode cX9_derive 77 = .ok (.aload_n 0, 1) := by decide +kernel
theorem dX9_derive_78 : decode cX9_derive 78 = .ok (.iconst 0, 1) := by decide +kernel
theorem dX9_derive_79 : decode cX9_derive 79 = .ok (.putfield 231, 3) := by decide +kernel
theorem dX9_derive_82 : decode cX9_derive 82 = .ok (.iconst 0, 1) := by decide +kernel
theorem dX9_derive_83 : decode cX9_derive 83 = .ok (.istore_n 2, 1) := by decide +kernel
theorem dX9_derive_84 : decode cX9_derive 84 = .ok (.iload_n 2, 1) := by decide +kernel
theorem dX9_derive_85 : decode cX9_derive 85 = .ok (.aload_n 0, 1) := by decide +kernel
theorem dX9_derive_86 : decode cX9_derive 86 = .ok (.getfield 209, 3) := by decide +kernel
theorem dX9_derive_89 : decode cX9_derive 89 = .ok (.if_icmp .ge 32, 3) := by decide +kernel
theorem dX9_derive_92 : decode cX9_derive 92 = .ok (.aload_n 0, 1) := by decide +kernel
theorem dX9_derive_93 : decode cX9_derive 93 = .ok (.getfield 68, 3) := by decide +kernel
theorem dX9_derive_96 : decode cX9_derive 96 = .ok (.aload_n 0, 1) := by decide +kernel
theorem dX9_derive_97 : decode cX9_derive 97 = .ok (.getfield 50, 3) := by decide +kernel
theorem dX9_derive_100 : decode cX9_derive 100 = .ok (.bipush 6, 2) := by decide +kernel
theorem dX9_derive_102 : decode cX9_derive 102 = .ok (.iload_n 2, 1) := by decide +kernel
theorem dX9_derive_103 : decode cX9_derive 103 = .ok (.imul, 1) := by decide +kernel
theorem dX9_derive_104 : decode cX9_derive 104 = .ok (.iaload, 1) := by decide +kernel
theorem dX9_derive_105 : decode cX9_derive 105 = .ok (.iaload, 1) := by decide +kernel
theorem dX9_derive_106 : decode cX9_derive 106 = .ok (.iload_n 1, 1) := by decide +kernel
theorem dX9_derive_107 : decode cX9_derive 107 = .ok (.if_icmp .ne 8, 3) := by decide +kernel
theorem dX9_derive_110 : decode cX9_derive 110 = .ok (.aload_n 0, 1) := by decide +kernel
theorem dX9_derive_111 : decode cX9_derive 111 = .ok (.iload_n 2, 1) := by decide +kernel
theorem dX9_derive_112 : decode cX9_derive 112 = .ok (.invokevirtual 244, 3) := by decide +kernel
theorem dX9_derive_115 : decode cX9_derive 115 = .ok (.iinc 2 1, 3) := by decide +kernel
theorem dX9_derive_118 : decode cX9_derive 118 = .ok (.goto (-34), 3) := by decide +kernel
theorem dX9_derive_121 : decode cX9_derive 121 = .ok (.goto (-51), 3) := by decide +kernel
theorem dX9_derive_124 : decode cX9_derive 124 = .ok (.iinc 1 1, 3) := by decide +kernel
theorem dX9_derive_127 : decode cX9_derive 127 = .ok (.goto (-68), 3) := by decide +kernel
theorem dX9_derive_130 : decode cX9_derive 130 = .ok (.return_, 1) := by decide +kernel
theorem dX9_isConstant_0 : decode cX9_isConstant 0 = .ok (.iload_n 0, 1) := by decide +kernel
theorem dX9_isConstant_1 : decode cX9_isConstant 1 = .ok (.ifCond .lt 13, 3) := by decide +kernel
theorem dX9_isConstant_4 : decode cX9_isConstant 4 = .ok (.iload_n 0, 1) := by decide +kernel
theorem dX9_isConstant_5 : decode cX9_isConstant 5 = .ok (.bipush 12, 2) := by decide +kernel
theorem dX9_isConstant_7 : decode cX9_isConstant 7 = .ok (.if_icmp .ge 7, 3) := by decide +kernel
theorem dX9_isConstant_10 : decode cX9_isConstant 10 = .ok (.iconst 1, 1) := by decide +kernel
theorem dX9_isConstant_11 : decode cX9_isConstant 11 = .ok (.goto 4, 3) := by decide +kernel
theorem dX9_isConstant_14 : decode cX9_isConstant 14 = .ok (.iconst 0, 1) := by decide +kernel
theorem dX9_isConstant_15 : decode cX9_isConstant 15 = .ok (.ireturn, 1) := by decide +kernel
theorem dX9_place_0 : decode cX9_place 0 = .ok (.iload_n 1, 1) := by decide +kernel
theorem dX9_place_1 : decode cX9_place 1 = .ok (.ifCond .lt 18, 3) := by decide +kernel
theorem dX9_place_4 : decode cX9_place 4 = .ok (.iload_n 1, 1) := by decide +kernel
theorem dX9_place_5 : decode cX9_place 5 = .ok (.bipush 10, 2) := by decide +kernel
theorem dX9_place_7 : decode cX9_place 7 = .ok (.if_icmp .ge 12, 3) := by decide +kernel
theorem dX9_place_10 : decode cX9_place 10 = .ok (.aload_n 0, 1) := by decide +kernel
theorem dX9_place_11 : decode cX9_place 11 = .ok (.getfield 62, 3) := by decide +kernel
theorem dX9_place_14 : decode cX9_place 14 = .ok (.iload_n 1, 1) := by decide +kernel
theorem dX9_place_15 : decode cX9_place 15 = .ok (.iaload, 1) := by decide +kernel
theorem dX9_place_16 : decode cX9_place 16 = .ok (.ifCond .ne 5, 3) := by decide +kernel
theorem dX9_place_19 : decode cX9_place 19 = .ok (.iconst (-1), 1) := by decide +kernel
theorem dX9_place_20 : decode cX9_place 20 = .ok (.ireturn, 1) := by decide +kernel
theorem dX9_place_21 : decode cX9_place 21 = .ok (.aload_n 0, 1) := by decide +kernel
theorem dX9_place_22 : decode cX9_place 22 = .ok (.getfield 65, 3) := by decide +kernel
theorem dX9_place_25 : decode cX9_place 25 = .ok (.iload_n 1, 1) := by decide +kernel
theorem dX9_place_26 : decode cX9_place 26 = .ok (.iaload, 1) := by decide +kernel
theorem dX9_place_27 : decode cX9_place 27 = .ok (.istore 5, 2) := by decide +kernel
theorem dX9_place_29 : decode cX9_place 29 = .ok (.iload 5, 2) := by decide +kernel
theorem dX9_place_31 : decode cX9_place 31 = .ok (.ifCond .le 10, 3) := by decide +kernel
theorem dX9_place_34 : decode cX9_place 34 = .ok (.iload_n 2, 1) := by decide +kernel
theorem dX9_place_35 : decode cX9_place 35 = .ok (.invokestatic 247, 3) := by decide +kernel
theorem dX9_place_38 : decode cX9_place 38 = .ok (.ifCond .eq 30, 3) := by decide +kernel
theorem dX9_place_41 : decode cX9_place 41 = .ok (.iload 5, 2) := by decide +kernel
theorem dX9_place_43 : decode cX9_place 43 = .ok (.iconst 1, 1) := by decide +kernel
theorem dX9_place_44 : decode cX9_place 44 = .ok (.if_icmp .le 10, 3) := by decide +kernel
theorem dX9_place_47 : decode cX9_place 47 = .ok (.iload_n 3, 1) := by decide +kernel
theorem dX9_place_48 : decode cX9_place 48 = .ok (.invokestatic 247, 3) := by decide +kernel
theorem dX9_place_51 : decode cX9_place 51 = .ok (.ifCond .eq 17, 3) := by decide +kernel
theorem dX9_place_54 : decode cX9_place 54 = .ok (.iload 5, 2) := by decide +kernel
theorem dX9_place_56 : decode cX9_place 56 = .ok (.iconst 2, 1) := by decide +kernel
theorem dX9_place_57 : decode cX9_place 57 = .ok (.if_icmp .le 13, 3) := by decide +kernel
theorem dX9_place_60 : decode cX9_place 60 = .ok (.iload 4, 2) := by decide +kernel
theorem dX9_place_62 : decode cX9_place 62 = .ok (.invokestatic 247, 3) := by decide +kernel
theorem dX9_place_65 : decode cX9_place 65 = .ok (.ifCond .ne 5, 3) := by decide +kernel
theorem dX9_place_68 : decode cX9_place 68 = .ok (.iconst (-1), 1) := by decide +kernel
theorem dX9_place_69 : decode cX9_place 69 = .ok (.ireturn, 1) := by decide +kernel
theorem dX9_place_70 : decode cX9_place 70 = .ok (.sipush 1728, 3) := by decide +kernel
theorem dX9_place_73 : decode cX9_place 73 = .ok (.iload_n 1, 1) := by decide +kernel
theorem dX9_place_74 : decode cX9_place 74 = .ok (.imul, 1) := by decide +kernel
theorem dX9_place_75 : decode cX9_place 75 = .ok (.iload 5, 2) := by decide +kernel
theorem dX9_place_77 : decode cX9_place 77 = .ok (.ifCond .ne 7, 3) := by decide +kernel
theorem dX9_place_80 : decode cX9_place 80 = .ok (.iconst 0, 1) := by decide +kernel
theorem dX9_place_81 : decode cX9_place 81 = .ok (.goto 40, 3) := by decide +kernel
theorem dX9_place_84 : decode cX9_place 84 = .ok (.iload 5, 2) := by decide +kernel
theorem dX9_place_86 : decode cX9_place 86 = .ok (.iconst 1, 1) := by decide +kernel
theorem dX9_place_87 : decode cX9_place 87 = .ok (.if_icmp .ne 7, 3) := by decide +kernel
theorem dX9_place_90 : decode cX9_place 90 = .ok (.iload_n 2, 1) := by decide +kernel
theorem dX9_place_91 : decode cX9_place 91 = .ok (.goto 30, 3) := by decide +kernel
theorem dX9_place_94 : decode cX9_place 94 = .ok (.iload 5, 2) := by decide +kernel
theorem dX9_place_96 : decode cX9_place 96 = .ok (.iconst 2, 1) := by decide +kernel
theorem dX9_place_97 : decode cX9_place 97 = .ok (.if_icmp .ne 12, 3) := by decide +kernel
theorem dX9_place_100 : decode cX9_place 100 = .ok (.bipush 12, 2) := by decide +kernel
theorem dX9_place_102 : decode cX9_place 102 = .ok (.iload_n 2, 1) := by decide +kernel
theorem dX9_place_103 : decode cX9_place 103 = .ok (.imul, 1) := by decide +kernel
theorem dX9_place_104 : decode cX9_place 104 = .ok (.iload_n 3, 1) := by decide +kernel
theorem dX9_place_105 : decode cX9_place 105 = .ok (.iadd, 1) := by decide +kernel
theorem dX9_place_106 : decode cX9_place 106 = .ok (.goto 15, 3) := by decide +kernel
theorem dX9_place_109 : decode cX9_place 109 = .ok (.bipush 12, 2) := by decide +kernel
theorem dX9_place_111 : decode cX9_place 111 = .ok (.iload_n 2, 1) := by decide +kernel
theorem dX9_place_112 : decode cX9_place 112 = .ok (.imul, 1) := by decide +kernel
theorem dX9_place_113 : decode cX9_place 113 = .ok (.iload_n 3, 1) := by decide +kernel
theorem dX9_place_114 : decode cX9_place 114 = .ok (.iadd, 1) := by decide +kernel
theorem dX9_place_115 : decode cX9_place 115 = .ok (.bipush 12, 2) := by decide +kernel
theorem dX9_place_117 : decode cX9_place 117 = .ok (.imul, 1) := by decide +kernel
theorem dX9_place_118 : decode cX9_place 118 = .ok (.iload 4, 2) := by decide +kernel
theorem dX9_place_120 : decode cX9_place 120 = .ok (.iadd, 1) := by decide +kernel
theorem dX9_place_121 : decode cX9_place 121 = .ok (.iadd, 1) := by decide +kernel
theorem dX9_place_122 : decode cX9_place 122 = .ok (.ireturn, 1) := by decide +kernel
theorem dX9_stage_0 : decode cX9_stage 0 = .ok (.iload_n 1, 1) := by decide +kernel
theorem dX9_stage_1 : decode cX9_stage 1 = .ok (.iconst (-1), 1) := by decide +kernel
theorem dX9_stage_2 : decode cX9_stage 2 = .ok (.if_icmp .eq 26, 3) := by decide +kernel
theorem dX9_stage_5 : decode cX9_stage 5 = .ok (.aload_n 0, 1) := by decide +kernel
theorem dX9_stage_6 : decode cX9_stage 6 = .ok (.getfield 62, 3) := by decide +kernel
theorem dX9_stage_9 : decode cX9_stage 9 = .ok (.iload_n 1, 1) := by decide +kernel
theorem dX9_stage_10 : decode cX9_stage 10 = .ok (.sipush 1728, 3) := by decide +kernel
theorem dX9_stage_13 : decode cX9_stage 13 = .ok (.idiv, 1) := by decide +kernel
theorem dX9_stage_14 : decode cX9_stage 14 = .ok (.iaload, 1) := by decide +kernel
theorem dX9_stage_15 : decode cX9_stage 15 = .ok (.iconst 1, 1) := by decide +kernel
theorem dX9_stage_16 : decode cX9_stage 16 = .ok (.if_icmp .ne 12, 3) := by decide +kernel
theorem dX9_stage_19 : decode cX9_stage 19 = .ok (.aload_n 0, 1) := by decide +kernel
theorem dX9_stage_20 : decode cX9_stage 20 = .ok (.getfield 193, 3) := by decide +kernel
theorem dX9_stage_23 : decode cX9_stage 23 = .ok (.bipush 64, 2) := by decide +kernel
theorem dX9_stage_25 : decode cX9_stage 25 = .ok (.if_icmp .ne 5, 3) := by decide +kernel
theorem dX9_stage_28 : decode cX9_stage 28 = .ok (.iconst 0, 1) := by decide +kernel
theorem dX9_stage_29 : decode cX9_stage 29 = .ok (.ireturn, 1) := by decide +kernel
theorem dX9_stage_30 : decode cX9_stage 30 = .ok (.aload_n 0, 1) := by decide +kernel
theorem dX9_stage_31 : decode cX9_stage 31 = .ok (.getfield 80, 3) := by decide +kernel
theorem dX9_stage_34 : decode cX9_stage 34 = .ok (.aload_n 0, 1) := by decide +kernel
theorem dX9_stage_35 : decode cX9_stage 35 = .ok (.getfield 193, 3) := by decide +kernel
theorem dX9_stage_38 : decode cX9_stage 38 = .ok (.iconst 2, 1) := by decide +kernel
theorem dX9_stage_39 : decode cX9_stage 39 = .ok (.iload_n 1, 1) := by decide +kernel
theorem dX9_stage_40 : decode cX9_stage 40 = .ok (.imul, 1) := by decide +kernel
theorem dX9_stage_41 : decode cX9_stage 41 = .ok (.iload_n 2, 1) := by decide +kernel
theorem dX9_stage_42 : decode cX9_stage 42 = .ok (.ifCond .eq 7, 3) := by decide +kernel
theorem dX9_stage_45 : decode cX9_stage 45 = .ok (.iconst 1, 1) := by decide +kernel
theorem dX9_stage_46 : decode cX9_stage 46 = .ok (.goto 4, 3) := by decide +kernel
theorem dX9_stage_49 : decode cX9_stage 49 = .ok (.iconst 0, 1) := by decide +kernel
theorem dX9_stage_50 : decode cX9_stage 50 = .ok (.iadd, 1) := by decide +kernel
theorem dX9_stage_51 : decode cX9_stage 51 = .ok (.iastore, 1) := by decide +kernel
theorem dX9_stage_52 : decode cX9_stage 52 = .ok (.aload_n 0, 1) := by decide +kernel
theorem dX9_stage_53 : decode cX9_stage 53 = .ok (.dup, 1) := by decide +kernel
theorem dX9_stage_54 : decode cX9_stage 54 = .ok (.getfield 193, 3) := by decide +kernel
theorem dX9_stage_57 : decode cX9_stage 57 = .ok (.iconst 1, 1) := by decide +kernel
theorem dX9_stage_58 : decode cX9_stage 58 = .ok (.iadd, 1) := by decide +kernel
theorem dX9_stage_59 : decode cX9_stage 59 = .ok (.putfield 193, 3) := by decide +kernel
theorem dX9_stage_62 : decode cX9_stage 62 = .ok (.iconst 1, 1) := by decide +kernel
theorem dX9_stage_63 : decode cX9_stage 63 = .ok (.ireturn, 1) := by decide +kernel
theorem dX9_put_0 : decode cX9_put 0 = .ok (.aload_n 0, 1) := by decide +kernel
theorem dX9_put_1 : decode cX9_put 1 = .ok (.iconst 0, 1) := by decide +kernel
theorem dX9_put_2 : decode cX9_put 2 = .ok (.putfield 89, 3) := by decide +kernel
theorem dX9_put_5 : decode cX9_put 5 = .ok (.aload_n 0, 1) := by decide +kernel
theorem dX9_put_6 : decode cX9_put 6 = .ok (.aload_n 0, 1) := by decide +kernel
theorem dX9_put_7 : decode cX9_put 7 = .ok (.iload_n 1, 1) := by decide +kernel
theorem dX9_put_8 : decode cX9_put 8 = .ok (.iload_n 2, 1) := by decide +kernel
theorem dX9_put_9 : decode cX9_put 9 = .ok (.iload_n 3, 1) := by decide +kernel
theorem dX9_put_10 : decode cX9_put 10 = .ok (.iload 4, 2) := by decide +kernel
theorem dX9_put_12 : decode cX9_put 12 = .ok (.invokevirtual 250, 3) := by decide +kernel
theorem dX9_put_15 : decode cX9_put 15 = .ok (.iconst 1, 1) := by decide +kernel
theorem dX9_put_16 : decode cX9_put 16 = .ok (.invokevirtual 254, 3) := by decide +kernel
theorem dX9_put_19 : decode cX9_put 19 = .ok (.ireturn, 1) := by decide +kernel
theorem dX9_remove_0 : decode cX9_remove 0 = .ok (.aload_n 0, 1) := by decide +kernel
theorem dX9_remove_1 : decode cX9_remove 1 = .ok (.iconst 0, 1) := by decide +kernel
theorem dX9_remove_2 : decode cX9_remove 2 = .ok (.putfield 89, 3) := by decide +kernel
theorem dX9_remove_5 : decode cX9_remove 5 = .ok (.aload_n 0, 1) := by decide +kernel
theorem dX9_remove_6 : decode cX9_remove 6 = .ok (.aload_n 0, 1) := by decide +kernel
theorem dX9_remove_7 : decode cX9_remove 7 = .ok (.iload_n 1, 1) := by decide +kernel
theorem dX9_remove_8 : decode cX9_remove 8 = .ok (.iload_n 2, 1) := by decide +kernel
theorem dX9_remove_9 : decode cX9_remove 9 = .ok (.iload_n 3, 1) := by decide +kernel
theorem dX9_remove_10 : decode cX9_remove 10 = .ok (.iload 4, 2) := by decide +kernel
theorem dX9_remove_12 : decode cX9_remove 12 = .ok (.invokevirtual 250, 3) := by decide +kernel
theorem dX9_remove_15 : decode cX9_remove 15 = .ok (.iconst 0, 1) := by decide +kernel
theorem dX9_remove_16 : decode cX9_remove 16 = .ok (.invokevirtual 254, 3) := by decide +kernel
theorem dX9_remove_19 : decode cX9_remove 19 = .ok (.ireturn, 1) := by decide +kernel
theorem dX9_changedMany_0 : decode cX9_changedMany 0 = .ok (.iconst 0, 1) := by decide +kernel
theorem dX9_changedMany_1 : decode cX9_changedMany 1 = .ok (.istore_n 1, 1) := by decide +kernel
theorem dX9_changedMany_2 : decode cX9_changedMany 2 = .ok (.iconst 0, 1) := by decide +kernel
theorem dX9_changedMany_3 : decode cX9_changedMany 3 = .ok (.istore_n 2, 1) := by decide +kernel
theorem dX9_changedMany_4 : decode cX9_changedMany 4 = .ok (.iload_n 2, 1) := by decide +kernel
theorem dX9_changedMany_5 : decode cX9_changedMany 5 = .ok (.sipush 17280, 3) := by decide +kernel
theorem dX9_changedMany_8 : decode cX9_changedMany 8 = .ok (.if_icmp .ge 32, 3) := by decide +kernel
theorem dX9_changedMany_11 : decode cX9_changedMany 11 = .ok (.iload_n 1, 1) := by decide +kernel
theorem dX9_changedMany_12 : decode cX9_changedMany 12 = .ok (.aload_n 0, 1) := by decide +kernel
theorem dX9_changedMany_13 : decode cX9_changedMany 13 = .ok (.getfield 71, 3) := by decide +kernel
theorem dX9_changedMany_16 : decode cX9_changedMany 16 = .ok (.iload_n 2, 1) := by decide +kernel
theorem dX9_changedMany_17 : decode cX9_changedMany 17 = .ok (.baload, 1) := by decide +kernel
theorem dX9_changedMany_18 : decode cX9_changedMany 18 = .ok (.aload_n 0, 1) := by decide +kernel
theorem dX9_changedMany_19 : decode cX9_changedMany 19 = .ok (.getfield 74, 3) := by decide +kernel
theorem dX9_changedMany_22 : decode cX9_changedMany 22 = .ok (.iload_n 2, 1) := by decide +kernel
theorem dX9_changedMany_23 : decode cX9_changedMany 23 = .ok (.baload, 1) := by decide +kernel
theorem dX9_changedMany_24 : decode cX9_changedMany 24 = .ok (.if_icmp .eq 7, 3) := by decide +kernel
theorem dX9_changedMany_27 : decode cX9_changedMany 27 = .ok (.iconst 1, 1) := by decide +kernel
theorem dX9_changedMany_28 : decode cX9_changedMany 28 = .ok (.goto 4, 3) := by decide +kernel
theorem dX9_changedMany_31 : decode cX9_changedMany 31 = .ok (.iconst 0, 1) := by decide +kernel
theorem dX9_changedMany_32 : decode cX9_changedMany 32 = .ok (.iadd, 1) := by decide +kernel
theorem dX9_changedMany_33 : decode cX9_changedMany 33 = .ok (.istore_n 1, 1) := by decide +kernel
theorem dX9_changedMany_34 : decode cX9_changedMany 34 = .ok (.iinc 2 1, 3) := by decide +kernel
theorem dX9_changedMany_37 : decode cX9_changedMany 37 = .ok (.goto (-33), 3) := by decide +kernel
theorem dX9_changedMany_40 : decode cX9_changedMany 40 = .ok (.iload_n 1, 1) := by decide +kernel
theorem dX9_changedMany_41 : decode cX9_changedMany 41 = .ok (.ireturn, 1) := by decide +kernel
theorem dX9_commit_0 : decode cX9_commit 0 = .ok (.aload_n 0, 1) := by decide +kernel
theorem dX9_commit_1 : decode cX9_commit 1 = .ok (.aload_n 0, 1) := by decide +kernel
theorem dX9_commit_2 : decode cX9_commit 2 = .ok (.getfield 196, 3) := by decide +kernel
theorem dX9_commit_5 : decode cX9_commit 5 = .ok (.aload_n 0, 1) := by decide +kernel
theorem dX9_commit_6 : decode cX9_commit 6 = .ok (.getfield 193, 3) := by decide +kernel
theorem dX9_commit_9 : decode cX9_commit 9 = .ok (.iadd, 1) := by decide +kernel
theorem dX9_commit_10 : decode cX9_commit 10 = .ok (.bipush 96, 2) := by decide +kernel
theorem dX9_commit_12 : decode cX9_commit 12 = .ok (.if_icmp .le 7, 3) := by decide +kernel
theorem dX9_commit_15 : decode cX9_commit 15 = .ok (.iconst 1, 1) := by decide +kernel
theorem dX9_commit_16 : decode cX9_commit 16 = .ok (.goto 4, 3) := by decide +kernel
theorem dX9_commit_19 : decode cX9_commit 19 = .ok (.iconst 0, 1) := by decide +kernel
theorem dX9_commit_20 : decode cX9_commit 20 = .ok (.putfield 89, 3) := by decide +kernel
theorem dX9_commit_23 : decode cX9_commit 23 = .ok (.aload_n 0, 1) := by decide +kernel
theorem dX9_commit_24 : decode cX9_commit 24 = .ok (.getfield 89, 3) := by decide +kernel
theorem dX9_commit_27 : decode cX9_commit 27 = .ok (.ifCond .eq 5, 3) := by decide +kernel
theorem dX9_commit_30 : decode cX9_commit 30 = .ok (.iconst 0, 1) := by decide +kernel
theorem dX9_commit_31 : decode cX9_commit 31 = .ok (.ireturn, 1) := by decide +kernel
theorem dX9_commit_32 : decode cX9_commit 32 = .ok (.iconst 0, 1) := by decide +kernel
theorem dX9_commit_33 : decode cX9_commit 33 = .ok (.istore_n 1, 1) := by decide +kernel
theorem dX9_commit_34 : decode cX9_commit 34 = .ok (.iload_n 1, 1) := by decide +kernel
theorem dX9_commit_35 : decode cX9_commit 35 = .ok (.sipush 17280, 3) := by decide +kernel
theorem dX9_commit_38 : decode cX9_commit 38 = .ok (.if_icmp .ge 21, 3) := by decide +kernel
theorem dX9_commit_41 : decode cX9_commit 41 = .ok (.aload_n 0, 1) := by decide +kernel
theorem dX9_commit_42 : decode cX9_commit 42 = .ok (.getfield 74, 3) := by decide +kernel
theorem dX9_commit_45 : decode cX9_commit 45 = .ok (.iload_n 1, 1) := by decide +kernel
theorem dX9_commit_46 : decode cX9_commit 46 = .ok (.aload_n 0, 1) := by decide +kernel
theorem dX9_commit_47 : decode cX9_commit 47 = .ok (.getfield 71, 3) := by decide +kernel
theorem dX9_commit_50 : decode cX9_commit 50 = .ok (.iload_n 1, 1) := by decide +kernel
theorem dX9_commit_51 : decode cX9_commit 51 = .ok (.baload, 1) := by decide +kernel
theorem dX9_commit_52 : decode cX9_commit 52 = .ok (.bastore, 1) := by decide +kernel
theorem dX9_commit_53 : decode cX9_commit 53 = .ok (.iinc 1 1, 3) := by decide +kernel
theorem dX9_commit_56 : decode cX9_commit 56 = .ok (.goto (-22), 3) := by decide +kernel
theorem dX9_commit_59 : decode cX9_commit 59 = .ok (.iconst 0, 1) := by decide +kernel
theorem dX9_commit_60 : decode cX9_commit 60 = .ok (.istore_n 1, 1) := by decide +kernel
theorem dX9_commit_61 : decode cX9_commit 61 = .ok (.iload_n 1, 1) := by decide +kernel
theorem dX9_commit_62 : decode cX9_commit 62 = .ok (.aload_n 0, 1) := by decide +kernel
theorem dX9_commit_63 : decode cX9_commit 63 = .ok (.getfield 193, 3) := by decide +kernel
theorem dX9_commit_66 : decode cX9_commit 66 = .ok (.if_icmp .ge 64, 3) := by decide +kernel
theorem dX9_commit_69 : decode cX9_commit 69 = .ok (.aload_n 0, 1) := by decide +kernel
theorem dX9_commit_70 : decode cX9_commit 70 = .ok (.getfield 71, 3) := by decide +kernel
theorem dX9_commit_73 : decode cX9_commit 73 = .ok (.aload_n 0, 1) := by decide +kernel
theorem dX9_commit_74 : decode cX9_commit 74 = .ok (.getfield 80, 3) := by decide +kernel
theorem dX9_commit_77 : decode cX9_commit 77 = .ok (.iload_n 1, 1) := by decide +kernel
theorem dX9_commit_78 : decode cX9_commit 78 = .ok (.iaload, 1) := by decide +kernel
theorem dX9_commit_79 : decode cX9_commit 79 = .ok (.iconst 2, 1) := by decide +kernel
theorem dX9_commit_80 : decode cX9_commit 80 = .ok (.idiv, 1) := by decide +kernel
theorem dX9_commit_81 : decode cX9_commit 81 = .ok (.aload_n 0, 1) := by decide +kernel
theorem dX9_commit_82 : decode cX9_commit 82 = .ok (.getfield 80, 3) := by decide +kernel
theorem dX9_commit_85 : decode cX9_commit 85 = .ok (.iload_n 1, 1) := by decide +kernel
theorem dX9_commit_86 : decode cX9_commit 86 = .ok (.iaload, 1) := by decide +kernel
theorem dX9_commit_87 : decode cX9_commit 87 = .ok (.iconst 2, 1) := by decide +kernel
theorem dX9_commit_88 : decode cX9_commit 88 = .ok (.irem, 1) := by decide +kernel
theorem dX9_commit_89 : decode cX9_commit 89 = .ok (.iconst 1, 1) := by decide +kernel
theorem dX9_commit_90 : decode cX9_commit 90 = .ok (.if_icmp .ne 7, 3) := by decide +kernel
theorem dX9_commit_93 : decode cX9_commit 93 = .ok (.iconst 1, 1) := by decide +kernel
theorem dX9_commit_94 : decode cX9_commit 94 = .ok (.goto 4, 3) := by decide +kernel
theorem dX9_commit_97 : decode cX9_commit 97 = .ok (.iconst 0, 1) := by decide +kernel
theorem dX9_commit_98 : decode cX9_commit 98 = .ok (.bastore, 1) := by decide +kernel
theorem dX9_commit_99 : decode cX9_commit 99 = .ok (.aload_n 0, 1) := by decide +kernel
theorem dX9_commit_100 : decode cX9_commit 100 = .ok (.getfield 83, 3) := by decide +kernel
theorem dX9_commit_103 : decode cX9_commit 103 = .ok (.aload_n 0, 1) := by decide +kernel
theorem dX9_commit_104 : decode cX9_commit 104 = .ok (.getfield 196, 3) := by decide +kernel
theorem dX9_commit_107 : decode cX9_commit 107 = .ok (.aload_n 0, 1) := by decide +kernel
theorem dX9_commit_108 : decode cX9_commit 108 = .ok (.getfield 80, 3) := by decide +kernel
theorem dX9_commit_111 : decode cX9_commit 111 = .ok (.iload_n 1, 1) := by decide +kernel
theorem dX9_commit_112 : decode cX9_commit 112 = .ok (.iaload, 1) := by decide +kernel
theorem dX9_commit_113 : decode cX9_commit 113 = .ok (.iastore, 1) := by decide +kernel
theorem dX9_commit_114 : decode cX9_commit 114 = .ok (.aload_n 0, 1) := by decide +kernel
theorem dX9_commit_115 : decode cX9_commit 115 = .ok (.dup, 1) := by decide +kernel
theorem dX9_commit_116 : decode cX9_commit 116 = .ok (.getfield 196, 3) := by decide +kernel
theorem dX9_commit_119 : decode cX9_commit 119 = .ok (.iconst 1, 1) := by decide +kernel
theorem dX9_commit_120 : decode cX9_commit 120 = .ok (.iadd, 1) := by decide +kernel
theorem dX9_commit_121 : decode cX9_commit 121 = .ok (.putfield 196, 3) := by decide +kernel
theorem dX9_commit_124 : decode cX9_commit 124 = .ok (.iinc 1 1, 3) := by decide +kernel
theorem dX9_commit_127 : decode cX9_commit 127 = .ok (.goto (-66), 3) := by decide +kernel
theorem dX9_commit_130 : decode cX9_commit 130 = .ok (.aload_n 0, 1) := by decide +kernel
theorem dX9_commit_131 : decode cX9_commit 131 = .ok (.iconst 0, 1) := by decide +kernel
theorem dX9_commit_132 : decode cX9_commit 132 = .ok (.putfield 193, 3) := by decide +kernel
theorem dX9_commit_135 : decode cX9_commit 135 = .ok (.aload_n 0, 1) := by decide +kernel
theorem dX9_commit_136 : decode cX9_commit 136 = .ok (.iconst 1, 1) := by decide +kernel
theorem dX9_commit_137 : decode cX9_commit 137 = .ok (.putfield 205, 3) := by decide +kernel
theorem dX9_commit_140 : decode cX9_commit 140 = .ok (.aload_n 0, 1) := by decide +kernel
theorem dX9_commit_141 : decode cX9_commit 141 = .ok (.invokevirtual 202, 3) := by decide +kernel
theorem dX9_commit_144 : decode cX9_commit 144 = .ok (.aload_n 0, 1) := by decide +kernel
theorem dX9_commit_145 : decode cX9_commit 145 = .ok (.invokevirtual 257, 3) := by decide +kernel
theorem dX9_commit_148 : decode cX9_commit 148 = .ok (.ireturn, 1) := by decide +kernel
theorem dX9_abort_0 : decode cX9_abort 0 = .ok (.aload_n 0, 1) := by decide +kernel
theorem dX9_abort_1 : decode cX9_abort 1 = .ok (.iconst 0, 1) := by decide +kernel
theorem dX9_abort_2 : decode cX9_abort 2 = .ok (.putfield 89, 3) := by decide +kernel
theorem dX9_abort_5 : decode cX9_abort 5 = .ok (.aload_n 0, 1) := by decide +kernel
theorem dX9_abort_6 : decode cX9_abort 6 = .ok (.getfield 193, 3) := by decide +kernel
theorem dX9_abort_9 : decode cX9_abort 9 = .ok (.istore_n 1, 1) := by decide +kernel
theorem dX9_abort_10 : decode cX9_abort 10 = .ok (.aload_n 0, 1) := by decide +kernel
theorem dX9_abort_11 : decode cX9_abort 11 = .ok (.iconst 0, 1) := by decide +kernel
theorem dX9_abort_12 : decode cX9_abort 12 = .ok (.putfield 193, 3) := by decide +kernel
theorem dX9_abort_15 : decode cX9_abort 15 = .ok (.iload_n 1, 1) := by decide +kernel
theorem dX9_abort_16 : decode cX9_abort 16 = .ok (.ireturn, 1) := by decide +kernel
theorem dX9_holds_0 : decode cX9_holds 0 = .ok (.aload_n 0, 1) := by decide +kernel
theorem dX9_holds_1 : decode cX9_holds 1 = .ok (.iconst 0, 1) := by decide +kernel
theorem dX9_holds_2 : decode cX9_holds 2 = .ok (.putfield 89, 3) := by decide +kernel
theorem dX9_holds_5 : decode cX9_holds 5 = .ok (.aload_n 0, 1) := by decide +kernel
theorem dX9_holds_6 : decode cX9_holds 6 = .ok (.iload_n 1, 1) := by decide +kernel
theorem dX9_holds_7 : decode cX9_holds 7 = .ok (.iload_n 2, 1) := by decide +kernel
theorem dX9_holds_8 : decode cX9_holds 8 = .ok (.iload_n 3, 1) := by decide +kernel
theorem dX9_holds_9 : decode cX9_holds 9 = .ok (.iload 4, 2) := by decide +kernel
theorem dX9_holds_11 : decode cX9_holds 11 = .ok (.invokevirtual 250, 3) := by decide +kernel
theorem dX9_holds_14 : decode cX9_holds 14 = .ok (.istore 5, 2) := by decide +kernel
theorem dX9_holds_16 : decode cX9_holds 16 = .ok (.iload 5, 2) := by decide +kernel
theorem dX9_holds_18 : decode cX9_holds 18 = .ok (.iconst (-1), 1) := by decide +kernel
theorem dX9_holds_19 : decode cX9_holds 19 = .ok (.if_icmp .eq 17, 3) := by decide +kernel
theorem dX9_holds_22 : decode cX9_holds 22 = .ok (.aload_n 0, 1) := by decide +kernel
theorem dX9_holds_23 : decode cX9_holds 23 = .ok (.getfield 71, 3) := by decide +kernel
theorem dX9_holds_26 : decode cX9_holds 26 = .ok (.iload 5, 2) := by decide +kernel
theorem dX9_holds_28 : decode cX9_holds 28 = .ok (.baload, 1) := by decide +kernel
theorem dX9_holds_29 : decode cX9_holds 29 = .ok (.ifCond .eq 7, 3) := by decide +kernel
theorem dX9_holds_32 : decode cX9_holds 32 = .ok (.iconst 1, 1) := by decide +kernel
theorem dX9_holds_33 : decode cX9_holds 33 = .ok (.goto 4, 3) := by decide +kernel
theorem dX9_holds_36 : decode cX9_holds 36 = .ok (.iconst 0, 1) := by decide +kernel
theorem dX9_holds_37 : decode cX9_holds 37 = .ok (.ireturn, 1) := by decide +kernel
theorem dX9_factCount_0 : decode cX9_factCount 0 = .ok (.iconst 0, 1) := by decide +kernel
theorem dX9_factCount_1 : decode cX9_factCount 1 = .ok (.istore_n 2, 1) := by decide +kernel
theorem dX9_factCount_2 : decode cX9_factCount 2 = .ok (.iconst 0, 1) := by decide +kernel
theorem dX9_factCount_3 : decode cX9_factCount 3 = .ok (.istore_n 3, 1) := by decide +kernel
theorem dX9_factCount_4 : decode cX9_factCount 4 = .ok (.iload_n 3, 1) := by decide +kernel
theorem dX9_factCount_5 : decode cX9_factCount 5 = .ok (.sipush 1728, 3) := by decide +kernel
theorem dX9_factCount_8 : decode cX9_factCount 8 = .ok (.if_icmp .ge 32, 3) := by decide +kernel
theorem dX9_factCount_11 : decode cX9_factCount 11 = .ok (.iload_n 2, 1) := by decide +kernel
theorem dX9_factCount_12 : decode cX9_factCount 12 = .ok (.aload_n 0, 1) := by decide +kernel
theorem dX9_factCount_13 : decode cX9_factCount 13 = .ok (.getfield 71, 3) := by decide +kernel
theorem dX9_factCount_16 : decode cX9_factCount 16 = .ok (.sipush 1728, 3) := by decide +kernel
theorem dX9_factCount_19 : decode cX9_factCount 19 = .ok (.iload_n 1, 1) := by decide +kernel
theorem dX9_factCount_20 : decode cX9_factCount 20 = .ok (.imul, 1) := by decide +kernel
theorem dX9_factCount_21 : decode cX9_factCount 21 = .ok (.iload_n 3, 1) := by decide +kernel
theorem dX9_factCount_22 : decode cX9_factCount 22 = .ok (.iadd, 1) := by decide +kernel
theorem dX9_factCount_23 : decode cX9_factCount 23 = .ok (.baload, 1) := by decide +kernel
theorem dX9_factCount_24 : decode cX9_factCount 24 = .ok (.ifCond .eq 7, 3) := by decide +kernel
theorem dX9_factCount_27 : decode cX9_factCount 27 = .ok (.iconst 1, 1) := by decide +kernel
theorem dX9_factCount_28 : decode cX9_factCount 28 = .ok (.goto 4, 3) := by decide +kernel
theorem dX9_factCount_31 : decode cX9_factCount 31 = .ok (.iconst 0, 1) := by decide +kernel
theorem dX9_factCount_32 : decode cX9_factCount 32 = .ok (.iadd, 1) := by decide +kernel
theorem dX9_factCount_33 : decode cX9_factCount 33 = .ok (.istore_n 2, 1) := by decide +kernel
theorem dX9_factCount_34 : decode cX9_factCount 34 = .ok (.iinc 3 1, 3) := by decide +kernel
theorem dX9_factCount_37 : decode cX9_factCount 37 = .ok (.goto (-33), 3) := by decide +kernel
theorem dX9_factCount_40 : decode cX9_factCount 40 = .ok (.iload_n 2, 1) := by decide +kernel
theorem dX9_factCount_41 : decode cX9_factCount 41 = .ok (.ireturn, 1) := by decide +kernel
theorem dX9_predicate_0 : decode cX9_predicate 0 = .ok (.aload_n 0, 1) := by decide +kernel
theorem dX9_predicate_1 : decode cX9_predicate 1 = .ok (.iconst 0, 1) := by decide +kernel
theorem dX9_predicate_2 : decode cX9_predicate 2 = .ok (.putfield 89, 3) := by decide +kernel
theorem dX9_predicate_5 : decode cX9_predicate 5 = .ok (.iload_n 1, 1) := by decide +kernel
theorem dX9_predicate_6 : decode cX9_predicate 6 = .ok (.ifCond .lt 18, 3) := by decide +kernel
theorem dX9_predicate_9 : decode cX9_predicate 9 = .ok (.iload_n 1, 1) := by decide +kernel
theorem dX9_predicate_10 : decode cX9_predicate 10 = .ok (.bipush 10, 2) := by decide +kernel
theorem dX9_predicate_12 : decode cX9_predicate 12 = .ok (.if_icmp .ge 12, 3) := by decide +kernel
theorem dX9_predicate_15 : decode cX9_predicate 15 = .ok (.iload_n 2, 1) := by decide +kernel
theorem dX9_predicate_16 : decode cX9_predicate 16 = .ok (.ifCond .lt 8, 3) := by decide +kernel
theorem dX9_predicate_19 : decode cX9_predicate 19 = .ok (.iload_n 2, 1) := by decide +kernel
theorem dX9_predicate_20 : decode cX9_predicate 20 = .ok (.iconst 3, 1) := by decide +kernel
theorem dX9_predicate_21 : decode cX9_predicate 21 = .ok (.if_icmp .le 5, 3) := by decide +kernel
theorem dX9_predicate_24 : decode cX9_predicate 24 = .ok (.iconst (-1), 1) := by decide +kernel
theorem dX9_predicate_25 : decode cX9_predicate 25 = .ok (.ireturn, 1) := by decide +kernel
theorem dX9_predicate_26 : decode cX9_predicate 26 = .ok (.iload_n 2, 1) := by decide +kernel
theorem dX9_predicate_27 : decode cX9_predicate 27 = .ok (.ifCond .ne 12, 3) := by decide +kernel
theorem dX9_predicate_30 : decode cX9_predicate 30 = .ok (.aload_n 0, 1) := by decide +kernel
theorem dX9_predicate_31 : decode cX9_predicate 31 = .ok (.getfield 62, 3) := by decide +kernel
theorem dX9_predicate_34 : decode cX9_predicate 34 = .ok (.iload_n 1, 1) := by decide +kernel
theorem dX9_predicate_35 : decode cX9_predicate 35 = .ok (.iaload, 1) := by decide +kernel
theorem dX9_predicate_36 : decode cX9_predicate 36 = .ok (.goto 36, 3) := by decide +kernel
theorem dX9_predicate_39 : decode cX9_predicate 39 = .ok (.iload_n 2, 1) := by decide +kernel
theorem dX9_predicate_40 : decode cX9_predicate 40 = .ok (.iconst 1, 1) := by decide +kernel
theorem dX9_predicate_41 : decode cX9_predicate 41 = .ok (.if_icmp .ne 12, 3) := by decide +kernel
theorem dX9_predicate_44 : decode cX9_predicate 44 = .ok (.aload_n 0, 1) := by decide +kernel
theorem dX9_predicate_45 : decode cX9_predicate 45 = .ok (.getfield 65, 3) := by decide +kernel
theorem dX9_predicate_48 : decode cX9_predicate 48 = .ok (.iload_n 1, 1) := by decide +kernel
theorem dX9_predicate_49 : decode cX9_predicate 49 = .ok (.iaload, 1) := by decide +kernel
theorem dX9_predicate_50 : decode cX9_predicate 50 = .ok (.goto 22, 3) := by decide +kernel
theorem dX9_predicate_53 : decode cX9_predicate 53 = .ok (.iload_n 2, 1) := by decide +kernel
theorem dX9_predicate_54 : decode cX9_predicate 54 = .ok (.iconst 2, 1) := by decide +kernel
theorem dX9_predicate_55 : decode cX9_predicate 55 = .ok (.if_icmp .ne 12, 3) := by decide +kernel
theorem dX9_predicate_58 : decode cX9_predicate 58 = .ok (.aload_n 0, 1) := by decide +kernel
theorem dX9_predicate_59 : decode cX9_predicate 59 = .ok (.getfield 68, 3) := by decide +kernel
theorem dX9_predicate_62 : decode cX9_predicate 62 = .ok (.iload_n 1, 1) := by decide +kernel
theorem dX9_predicate_63 : decode cX9_predicate 63 = .ok (.iaload, 1) := by decide +kernel
theorem dX9_predicate_64 : decode cX9_predicate 64 = .ok (.goto 8, 3) := by decide +kernel
theorem dX9_predicate_67 : decode cX9_predicate 67 = .ok (.aload_n 0, 1) := by decide +kernel
theorem dX9_predicate_68 : decode cX9_predicate 68 = .ok (.iload_n 1, 1) := by decide +kernel
theorem dX9_predicate_69 : decode cX9_predicate 69 = .ok (.invokevirtual 260, 3) := by decide +kernel
theorem dX9_predicate_72 : decode cX9_predicate 72 = .ok (.ireturn, 1) := by decide +kernel
theorem dX9_fact_0 : decode cX9_fact 0 = .ok (.aload_n 0, 1) := by decide +kernel
theorem dX9_fact_1 : decode cX9_fact 1 = .ok (.iconst 0, 1) := by decide +kernel
theorem dX9_fact_2 : decode cX9_fact 2 = .ok (.putfield 89, 3) := by decide +kernel
theorem dX9_fact_5 : decode cX9_fact 5 = .ok (.iload_n 1, 1) := by decide +kernel
theorem dX9_fact_6 : decode cX9_fact 6 = .ok (.ifCond .lt 13, 3) := by decide +kernel
theorem dX9_fact_9 : decode cX9_fact 9 = .ok (.iload_n 1, 1) := by decide +kernel
theorem dX9_fact_10 : decode cX9_fact 10 = .ok (.bipush 10, 2) := by decide +kernel
theorem dX9_fact_12 : decode cX9_fact 12 = .ok (.if_icmp .ge 7, 3) := by decide +kernel
theorem dX9_fact_15 : decode cX9_fact 15 = .ok (.iload_n 2, 1) := by decide +kernel
theorem dX9_fact_16 : decode cX9_fact 16 = .ok (.ifCond .ge 5, 3) := by decide +kernel
theorem dX9_fact_19 : decode cX9_fact 19 = .ok (.iconst (-1), 1) := by decide +kernel
theorem dX9_fact_20 : decode cX9_fact 20 = .ok (.ireturn, 1) := by decide +kernel
theorem dX9_fact_21 : decode cX9_fact 21 = .ok (.iconst 0, 1) := by decide +kernel
theorem dX9_fact_22 : decode cX9_fact 22 = .ok (.istore_n 3, 1) := by decide +kernel
theorem dX9_fact_23 : decode cX9_fact 23 = .ok (.iconst 0, 1) := by decide +kernel
theorem dX9_fact_24 : decode cX9_fact 24 = .ok (.istore 4, 2) := by decide +kernel
theorem dX9_fact_26 : decode cX9_fact 26 = .ok (.iload 4, 2) := by decide +kernel
theorem dX9_fact_28 : decode cX9_fact 28 = .ok (.sipush 1728, 3) := by decide +kernel
theorem dX9_fact_31 : decode cX9_fact 31 = .ok (.if_icmp .ge 39, 3) := by decide +kernel
theorem dX9_fact_34 : decode cX9_fact 34 = .ok (.aload_n 0, 1) := by decide +kernel
theorem dX9_fact_35 : decode cX9_fact 35 = .ok (.getfield 71, 3) := by decide +kernel
theorem dX9_fact_38 : decode cX9_fact 38 = .ok (.sipush 1728, 3) := by decide +kernel
theorem dX9_fact_41 : decode cX9_fact 41 = .ok (.iload_n 1, 1) := by decide +kernel
theorem dX9_fact_42 : decode cX9_fact 42 = .ok (.imul, 1) := by decide +kernel
theorem dX9_fact_43 : decode cX9_fact 43 = .ok (.iload 4, 2) := by decide +kernel
theorem dX9_fact_45 : decode cX9_fact 45 = .ok (.iadd, 1) := by decide +kernel
theorem dX9_fact_46 : decode cX9_fact 46 = .ok (.baload, 1) := by decide +kernel
theorem dX9_fact_47 : decode cX9_fact 47 = .ok (.ifCond .ne 6, 3) := by decide +kernel
theorem dX9_fact_50 : decode cX9_fact 50 = .ok (.goto 14, 3) := by decide +kernel
theorem dX9_fact_53 : decode cX9_fact 53 = .ok (.iload_n 3, 1) := by decide +kernel
theorem dX9_fact_54 : decode cX9_fact 54 = .ok (.iload_n 2, 1) := by decide +kernel
theorem dX9_fact_55 : decode cX9_fact 55 = .ok (.if_icmp .ne 6, 3) := by decide +kernel
theorem dX9_fact_58 : decode cX9_fact 58 = .ok (.iload 4, 2) := by decide +kernel
theorem dX9_fact_60 : decode cX9_fact 60 = .ok (.ireturn, 1) := by decide +kernel
theorem dX9_fact_61 : decode cX9_fact 61 = .ok (.iinc 3 1, 3) := by decide +kernel
theorem dX9_fact_64 : decode cX9_fact 64 = .ok (.iinc 4 1, 3) := by decide +kernel
theorem dX9_fact_67 : decode cX9_fact 67 = .ok (.goto (-41), 3) := by decide +kernel
theorem dX9_fact_70 : decode cX9_fact 70 = .ok (.iconst (-1), 1) := by decide +kernel
theorem dX9_fact_71 : decode cX9_fact 71 = .ok (.ireturn, 1) := by decide +kernel
theorem dX9_derivations_0 : decode cX9_derivations 0 = .ok (.aload_n 0, 1) := by decide +kernel
theorem dX9_derivations_1 : decode cX9_derivations 1 = .ok (.iconst 0, 1) := by decide +kernel
theorem dX9_derivations_2 : decode cX9_derivations 2 = .ok (.putfield 89, 3) := by decide +kernel
theorem dX9_derivations_5 : decode cX9_derivations 5 = .ok (.aload_n 0, 1) := by decide +kernel
theorem dX9_derivations_6 : decode cX9_derivations 6 = .ok (.iload_n 1, 1) := by decide +kernel
theorem dX9_derivations_7 : decode cX9_derivations 7 = .ok (.iload_n 2, 1) := by decide +kernel
theorem dX9_derivations_8 : decode cX9_derivations 8 = .ok (.iload_n 3, 1) := by decide +kernel
theorem dX9_derivations_9 : decode cX9_derivations 9 = .ok (.iload 4, 2) := by decide +kernel
theorem dX9_derivations_11 : decode cX9_derivations 11 = .ok (.invokevirtual 250, 3) := by decide +kernel
theorem dX9_derivations_14 : decode cX9_derivations 14 = .ok (.istore 5, 2) := by decide +kernel
theorem dX9_derivations_16 : decode cX9_derivations 16 = .ok (.iload 5, 2) := by decide +kernel
theorem dX9_derivations_18 : decode cX9_derivations 18 = .ok (.iconst (-1), 1) := by decide +kernel
theorem dX9_derivations_19 : decode cX9_derivations 19 = .ok (.if_icmp .eq 13, 3) := by decide +kernel
theorem dX9_derivations_22 : decode cX9_derivations 22 = .ok (.aload_n 0, 1) := by decide +kernel
theorem dX9_derivations_23 : decode cX9_derivations 23 = .ok (.getfield 62, 3) := by decide +kernel
theorem dX9_derivations_26 : decode cX9_derivations 26 = .ok (.iload_n 1, 1) := by decide +kernel
theorem dX9_derivations_27 : decode cX9_derivations 27 = .ok (.iaload, 1) := by decide +kernel
theorem dX9_derivations_28 : decode cX9_derivations 28 = .ok (.iconst 2, 1) := by decide +kernel
theorem dX9_derivations_29 : decode cX9_derivations 29 = .ok (.if_icmp .eq 5, 3) := by decide +kernel
theorem dX9_derivations_32 : decode cX9_derivations 32 = .ok (.iconst (-1), 1) := by decide +kernel
theorem dX9_derivations_33 : decode cX9_derivations 33 = .ok (.ireturn, 1) := by decide +kernel
theorem dX9_derivations_34 : decode cX9_derivations 34 = .ok (.aload_n 0, 1) := by decide +kernel
theorem dX9_derivations_35 : decode cX9_derivations 35 = .ok (.iload 5, 2) := by decide +kernel
theorem dX9_derivations_37 : decode cX9_derivations 37 = .ok (.putfield 228, 3) := by decide +kernel
theorem dX9_derivations_40 : decode cX9_derivations 40 = .ok (.aload_n 0, 1) := by decide +kernel
theorem dX9_derivations_41 : decode cX9_derivations 41 = .ok (.iconst 0, 1) := by decide +kernel
theorem dX9_derivations_42 : decode cX9_derivations 42 = .ok (.putfield 234, 3) := by decide +kernel
theorem dX9_derivations_45 : decode cX9_derivations 45 = .ok (.iconst 0, 1) := by decide +kernel
theorem dX9_derivations_46 : decode cX9_derivations 46 = .ok (.istore 6, 2) := by decide +kernel
theorem dX9_derivations_48 : decode cX9_derivations 48 = .ok (.iload 6, 2) := by decide +kernel
theorem dX9_derivations_50 : decode cX9_derivations 50 = .ok (.aload_n 0, 1) := by decide +kernel
theorem dX9_derivations_51 : decode cX9_derivations 51 = .ok (.getfield 209, 3) := by decide +kernel
theorem dX9_derivations_54 : decode cX9_derivations 54 = .ok (.if_icmp .ge 29, 3) := by decide +kernel
theorem dX9_derivations_57 : decode cX9_derivations 57 = .ok (.aload_n 0, 1) := by decide +kernel
theorem dX9_derivations_58 : decode cX9_derivations 58 = .ok (.getfield 50, 3) := by decide +kernel
theorem dX9_derivations_61 : decode cX9_derivations 61 = .ok (.bipush 6, 2) := by decide +kernel
theorem dX9_derivations_63 : decode cX9_derivations 63 = .ok (.iload 6, 2) := by decide +kernel
theorem dX9_derivations_65 : decode cX9_derivations 65 = .ok (.imul, 1) := by decide +kernel
theorem dX9_derivations_66 : decode cX9_derivations 66 = .ok (.iaload, 1) := by decide +kernel
theorem dX9_derivations_67 : decode cX9_derivations 67 = .ok (.iload_n 1, 1) := by decide +kernel
theorem dX9_derivations_68 : decode cX9_derivations 68 = .ok (.if_icmp .ne 9, 3) := by decide +kernel
theorem dX9_derivations_71 : decode cX9_derivations 71 = .ok (.aload_n 0, 1) := by decide +kernel
theorem dX9_derivations_72 : decode cX9_derivations 72 = .ok (.iload 6, 2) := by decide +kernel
theorem dX9_derivations_74 : decode cX9_derivations 74 = .ok (.invokevirtual 244, 3) := by decide +kernel
theorem dX9_derivations_77 : decode cX9_derivations 77 = .ok (.iinc 6 1, 3) := by decide +kernel
theorem dX9_derivations_80 : decode cX9_derivations 80 = .ok (.goto (-32), 3) := by decide +kernel
theorem dX9_derivations_83 : decode cX9_derivations 83 = .ok (.aload_n 0, 1) := by decide +kernel
theorem dX9_derivations_84 : decode cX9_derivations 84 = .ok (.getfield 234, 3) := by decide +kernel
theorem dX9_derivations_87 : decode cX9_derivations 87 = .ok (.ireturn, 1) := by decide +kernel
theorem dX9_changed_0 : decode cX9_changed 0 = .ok (.aload_n 0, 1) := by decide +kernel
theorem dX9_changed_1 : decode cX9_changed 1 = .ok (.iconst 0, 1) := by decide +kernel
theorem dX9_changed_2 : decode cX9_changed 2 = .ok (.putfield 89, 3) := by decide +kernel
theorem dX9_changed_5 : decode cX9_changed 5 = .ok (.aload_n 0, 1) := by decide +kernel
theorem dX9_changed_6 : decode cX9_changed 6 = .ok (.getfield 205, 3) := by decide +kernel
theorem dX9_changed_9 : decode cX9_changed 9 = .ok (.ifCond .eq 16, 3) := by decide +kernel
theorem dX9_changed_12 : decode cX9_changed 12 = .ok (.iload_n 1, 1) := by decide +kernel
theorem dX9_changed_13 : decode cX9_changed 13 = .ok (.ifCond .lt 12, 3) := by decide +kernel
theorem dX9_changed_16 : decode cX9_changed 16 = .ok (.iload_n 2, 1) := by decide +kernel
theorem dX9_changed_17 : decode cX9_changed 17 = .ok (.ifCond .lt 8, 3) := by decide +kernel
theorem dX9_changed_20 : decode cX9_changed 20 = .ok (.iload_n 2, 1) := by decide +kernel
theorem dX9_changed_21 : decode cX9_changed 21 = .ok (.iconst 2, 1) := by decide +kernel
theorem dX9_changed_22 : decode cX9_changed 22 = .ok (.if_icmp .le 5, 3) := by decide +kernel
theorem dX9_changed_25 : decode cX9_changed 25 = .ok (.iconst (-1), 1) := by decide +kernel
theorem dX9_changed_26 : decode cX9_changed 26 = .ok (.ireturn, 1) := by decide +kernel
theorem dX9_changed_27 : decode cX9_changed 27 = .ok (.iconst 0, 1) := by decide +kernel
theorem dX9_changed_28 : decode cX9_changed 28 = .ok (.istore_n 3, 1) := by decide +kernel
theorem dX9_changed_29 : decode cX9_changed 29 = .ok (.iconst 0, 1) := by decide +kernel
theorem dX9_changed_30 : decode cX9_changed 30 = .ok (.istore 4, 2) := by decide +kernel
theorem dX9_changed_32 : decode cX9_changed 32 = .ok (.iload 4, 2) := by decide +kernel
theorem dX9_changed_34 : decode cX9_changed 34 = .ok (.sipush 17280, 3) := by decide +kernel
theorem dX9_changed_37 : decode cX9_changed 37 = .ok (.if_icmp .ge 80, 3) := by decide +kernel
theorem dX9_changed_40 : decode cX9_changed 40 = .ok (.aload_n 0, 1) := by decide +kernel
theorem dX9_changed_41 : decode cX9_changed 41 = .ok (.getfield 71, 3) := by decide +kernel
theorem dX9_changed_44 : decode cX9_changed 44 = .ok (.iload 4, 2) := by decide +kernel
theorem dX9_changed_46 : decode cX9_changed 46 = .ok (.baload, 1) := by decide +kernel
theorem dX9_changed_47 : decode cX9_changed 47 = .ok (.aload_n 0, 1) := by decide +kernel
theorem dX9_changed_48 : decode cX9_changed 48 = .ok (.getfield 74, 3) := by decide +kernel
theorem dX9_changed_51 : decode cX9_changed 51 = .ok (.iload 4, 2) := by decide +kernel
theorem dX9_changed_53 : decode cX9_changed 53 = .ok (.baload, 1) := by decide +kernel
theorem dX9_changed_54 : decode cX9_changed 54 = .ok (.if_icmp .ne 6, 3) := by decide +kernel
theorem dX9_changed_57 : decode cX9_changed 57 = .ok (.goto 54, 3) := by decide +kernel
theorem dX9_changed_60 : decode cX9_changed 60 = .ok (.iload_n 3, 1) := by decide +kernel
theorem dX9_changed_61 : decode cX9_changed 61 = .ok (.iload_n 1, 1) := by decide +kernel
theorem dX9_changed_62 : decode cX9_changed 62 = .ok (.if_icmp .ne 46, 3) := by decide +kernel
theorem dX9_changed_65 : decode cX9_changed 65 = .ok (.iload_n 2, 1) := by decide +kernel
theorem dX9_changed_66 : decode cX9_changed 66 = .ok (.ifCond .ne 12, 3) := by decide +kernel
theorem dX9_changed_69 : decode cX9_changed 69 = .ok (.iload 4, 2) := by decide +kernel
theorem dX9_changed_71 : decode cX9_changed 71 = .ok (.sipush 1728, 3) := by decide +kernel
theorem dX9_changed_74 : decode cX9_changed 74 = .ok (.idiv, 1) := by decide +kernel
theorem dX9_changed_75 : decode cX9_changed 75 = .ok (.goto 32, 3) := by decide +kernel
theorem dX9_changed_78 : decode cX9_changed 78 = .ok (.iload_n 2, 1) := by decide +kernel
theorem dX9_changed_79 : decode cX9_changed 79 = .ok (.iconst 1, 1) := by decide +kernel
theorem dX9_changed_80 : decode cX9_changed 80 = .ok (.if_icmp .ne 12, 3) := by decide +kernel
theorem dX9_changed_83 : decode cX9_changed 83 = .ok (.iload 4, 2) := by decide +kernel
theorem dX9_changed_85 : decode cX9_changed 85 = .ok (.sipush 1728, 3) := by decide +kernel
theorem dX9_changed_88 : decode cX9_changed 88 = .ok (.irem, 1) := by decide +kernel
theorem dX9_changed_89 : decode cX9_changed 89 = .ok (.goto 18, 3) := by decide +kernel
theorem dX9_changed_92 : decode cX9_changed 92 = .ok (.aload_n 0, 1) := by decide +kernel
theorem dX9_changed_93 : decode cX9_changed 93 = .ok (.getfield 71, 3) := by decide +kernel
theorem dX9_changed_96 : decode cX9_changed 96 = .ok (.iload 4, 2) := by decide +kernel
theorem dX9_changed_98 : decode cX9_changed 98 = .ok (.baload, 1) := by decide +kernel
theorem dX9_changed_99 : decode cX9_changed 99 = .ok (.ifCond .eq 7, 3) := by decide +kernel
theorem dX9_changed_102 : decode cX9_changed 102 = .ok (.iconst 1, 1) := by decide +kernel
theorem dX9_changed_103 : decode cX9_changed 103 = .ok (.goto 4, 3) := by decide +kernel
theorem dX9_changed_106 : decode cX9_changed 106 = .ok (.iconst 0, 1) := by decide +kernel
theorem dX9_changed_107 : decode cX9_changed 107 = .ok (.ireturn, 1) := by decide +kernel
theorem dX9_changed_108 : decode cX9_changed 108 = .ok (.iinc 3 1, 3) := by decide +kernel
theorem dX9_changed_111 : decode cX9_changed 111 = .ok (.iinc 4 1, 3) := by decide +kernel
theorem dX9_changed_114 : decode cX9_changed 114 = .ok (.goto (-82), 3) := by decide +kernel
theorem dX9_changed_117 : decode cX9_changed 117 = .ok (.iconst (-1), 1) := by decide +kernel
theorem dX9_changed_118 : decode cX9_changed 118 = .ok (.ireturn, 1) := by decide +kernel
theorem dX9_sync_0 : decode cX9_sync 0 = .ok (.aload_n 0, 1) := by decide +kernel
theorem dX9_sync_1 : decode cX9_sync 1 = .ok (.iconst 0, 1) := by decide +kernel
theorem dX9_sync_2 : decode cX9_sync 2 = .ok (.putfield 89, 3) := by decide +kernel
theorem dX9_sync_5 : decode cX9_sync 5 = .ok (.aload_n 0, 1) := by decide +kernel
theorem dX9_sync_6 : decode cX9_sync 6 = .ok (.aload_n 0, 1) := by decide +kernel
theorem dX9_sync_7 : decode cX9_sync 7 = .ok (.getfield 196, 3) := by decide +kernel
theorem dX9_sync_10 : decode cX9_sync 10 = .ok (.putfield 199, 3) := by decide +kernel
theorem dX9_sync_13 : decode cX9_sync 13 = .ok (.aload_n 0, 1) := by decide +kernel
theorem dX9_sync_14 : decode cX9_sync 14 = .ok (.getfield 196, 3) := by decide +kernel
theorem dX9_sync_17 : decode cX9_sync 17 = .ok (.ireturn, 1) := by decide +kernel
theorem dX9_baseMany_0 : decode cX9_baseMany 0 = .ok (.iconst 0, 1) := by decide +kernel
theorem dX9_baseMany_1 : decode cX9_baseMany 1 = .ok (.istore_n 2, 1) := by decide +kernel
theorem dX9_baseMany_2 : decode cX9_baseMany 2 = .ok (.iconst 0, 1) := by decide +kernel
theorem dX9_baseMany_3 : decode cX9_baseMany 3 = .ok (.istore_n 3, 1) := by decide +kernel
theorem dX9_baseMany_4 : decode cX9_baseMany 4 = .ok (.iload_n 3, 1) := by decide +kernel
theorem dX9_baseMany_5 : decode cX9_baseMany 5 = .ok (.sipush 17280, 3) := by decide +kernel
theorem dX9_baseMany_8 : decode cX9_baseMany 8 = .ok (.if_icmp .ge 37, 3) := by decide +kernel
theorem dX9_baseMany_11 : decode cX9_baseMany 11 = .ok (.iload_n 2, 1) := by decide +kernel
theorem dX9_baseMany_12 : decode cX9_baseMany 12 = .ok (.aload_n 1, 1) := by decide +kernel
theorem dX9_baseMany_13 : decode cX9_baseMany 13 = .ok (.iload_n 3, 1) := by decide +kernel
theorem dX9_baseMany_14 : decode cX9_baseMany 14 = .ok (.baload, 1) := by decide +kernel
theorem dX9_baseMany_15 : decode cX9_baseMany 15 = .ok (.ifCond .eq 21, 3) := by decide +kernel
theorem dX9_baseMany_18 : decode cX9_baseMany 18 = .ok (.aload_n 0, 1) := by decide +kernel
theorem dX9_baseMany_19 : decode cX9_baseMany 19 = .ok (.getfield 62, 3) := by decide +kernel
theorem dX9_baseMany_22 : decode cX9_baseMany 22 = .ok (.iload_n 3, 1) := by decide +kernel
theorem dX9_baseMany_23 : decode cX9_baseMany 23 = .ok (.sipush 1728, 3) := by decide +kernel
theorem dX9_baseMany_26 : decode cX9_baseMany 26 = .ok (.idiv, 1) := by decide +kernel
theorem dX9_baseMany_27 : decode cX9_baseMany 27 = .ok (.iaload, 1) := by decide +kernel
theorem dX9_baseMany_28 : decode cX9_baseMany 28 = .ok (.iconst 1, 1) := by decide +kernel
theorem dX9_baseMany_29 : decode cX9_baseMany 29 = .ok (.if_icmp .ne 7, 3) := by decide +kernel
theorem dX9_baseMany_32 : decode cX9_baseMany 32 = .ok (.iconst 1, 1) := by decide +kernel
theorem dX9_baseMany_33 : decode cX9_baseMany 33 = .ok (.goto 4, 3) := by decide +kernel
theorem dX9_baseMany_36 : decode cX9_baseMany 36 = .ok (.iconst 0, 1) := by decide +kernel
theorem dX9_baseMany_37 : decode cX9_baseMany 37 = .ok (.iadd, 1) := by decide +kernel
theorem dX9_baseMany_38 : decode cX9_baseMany 38 = .ok (.istore_n 2, 1) := by decide +kernel
theorem dX9_baseMany_39 : decode cX9_baseMany 39 = .ok (.iinc 3 1, 3) := by decide +kernel
theorem dX9_baseMany_42 : decode cX9_baseMany 42 = .ok (.goto (-38), 3) := by decide +kernel
theorem dX9_baseMany_45 : decode cX9_baseMany 45 = .ok (.iload_n 2, 1) := by decide +kernel
theorem dX9_baseMany_46 : decode cX9_baseMany 46 = .ok (.ireturn, 1) := by decide +kernel
theorem dX9_checkpoint_0 : decode cX9_checkpoint 0 = .ok (.aload_n 0, 1) := by decide +kernel
theorem dX9_checkpoint_1 : decode cX9_checkpoint 1 = .ok (.iconst 0, 1) := by decide +kernel
theorem dX9_checkpoint_2 : decode cX9_checkpoint 2 = .ok (.putfield 89, 3) := by decide +kernel
theorem dX9_checkpoint_5 : decode cX9_checkpoint 5 = .ok (.iconst 0, 1) := by decide +kernel
theorem dX9_checkpoint_6 : decode cX9_checkpoint 6 = .ok (.istore_n 1, 1) := by decide +kernel
theorem dX9_checkpoint_7 : decode cX9_checkpoint 7 = .ok (.iload_n 1, 1) := by decide +kernel
theorem dX9_checkpoint_8 : decode cX9_checkpoint 8 = .ok (.sipush 17280, 3) := by decide +kernel
theorem dX9_checkpoint_11 : decode cX9_checkpoint 11 = .ok (.if_icmp .ge 43, 3) := by decide +kernel
theorem dX9_checkpoint_14 : decode cX9_checkpoint 14 = .ok (.aload_n 0, 1) := by decide +kernel
theorem dX9_checkpoint_15 : decode cX9_checkpoint 15 = .ok (.getfield 77, 3) := by decide +kernel
theorem dX9_checkpoint_18 : decode cX9_checkpoint 18 = .ok (.iload_n 1, 1) := by decide +kernel
theorem dX9_checkpoint_19 : decode cX9_checkpoint 19 = .ok (.aload_n 0, 1) := by decide +kernel
theorem dX9_checkpoint_20 : decode cX9_checkpoint 20 = .ok (.getfield 71, 3) := by decide +kernel
theorem dX9_checkpoint_23 : decode cX9_checkpoint 23 = .ok (.iload_n 1, 1) := by decide +kernel
theorem dX9_checkpoint_24 : decode cX9_checkpoint 24 = .ok (.baload, 1) := by decide +kernel
theorem dX9_checkpoint_25 : decode cX9_checkpoint 25 = .ok (.ifCond .eq 21, 3) := by decide +kernel
theorem dX9_checkpoint_28 : decode cX9_checkpoint 28 = .ok (.aload_n 0, 1) := by decide +kernel
theorem dX9_checkpoint_29 : decode cX9_checkpoint 29 = .ok (.getfield 62, 3) := by decide +kernel
theorem dX9_checkpoint_32 : decode cX9_checkpoint 32 = .ok (.iload_n 1, 1) := by decide +kernel
theorem dX9_checkpoint_33 : decode cX9_checkpoint 33 = .ok (.sipush 1728, 3) := by decide +kernel
theorem dX9_checkpoint_36 : decode cX9_checkpoint 36 = .ok (.idiv, 1) := by decide +kernel
theorem dX9_checkpoint_37 : decode cX9_checkpoint 37 = .ok (.iaload, 1) := by decide +kernel
theorem dX9_checkpoint_38 : decode cX9_checkpoint 38 = .ok (.iconst 1, 1) := by decide +kernel
theorem dX9_checkpoint_39 : decode cX9_checkpoint 39 = .ok (.if_icmp .ne 7, 3) := by decide +kernel
theorem dX9_checkpoint_42 : decode cX9_checkpoint 42 = .ok (.iconst 1, 1) := by decide +kernel
theorem dX9_checkpoint_43 : decode cX9_checkpoint 43 = .ok (.goto 4, 3) := by decide +kernel
theorem dX9_checkpoint_46 : decode cX9_checkpoint 46 = .ok (.iconst 0, 1) := by decide +kernel
theorem dX9_checkpoint_47 : decode cX9_checkpoint 47 = .ok (.bastore, 1) := by decide +kernel
theorem dX9_checkpoint_48 : decode cX9_checkpoint 48 = .ok (.iinc 1 1, 3) := by decide +kernel
theorem dX9_checkpoint_51 : decode cX9_checkpoint 51 = .ok (.goto (-44), 3) := by decide +kernel
theorem dX9_checkpoint_54 : decode cX9_checkpoint 54 = .ok (.aload_n 0, 1) := by decide +kernel
theorem dX9_checkpoint_55 : decode cX9_checkpoint 55 = .ok (.iconst 0, 1) := by decide +kernel
theorem dX9_checkpoint_56 : decode cX9_checkpoint 56 = .ok (.putfield 196, 3) := by decide +kernel
theorem dX9_checkpoint_59 : decode cX9_checkpoint 59 = .ok (.aload_n 0, 1) := by decide +kernel
theorem dX9_checkpoint_60 : decode cX9_checkpoint 60 = .ok (.iconst 0, 1) := by decide +kernel
theorem dX9_checkpoint_61 : decode cX9_checkpoint 61 = .ok (.putfield 199, 3) := by decide +kernel
theorem dX9_checkpoint_64 : decode cX9_checkpoint 64 = .ok (.aload_n 0, 1) := by decide +kernel
theorem dX9_checkpoint_65 : decode cX9_checkpoint 65 = .ok (.aload_n 0, 1) := by decide +kernel
theorem dX9_checkpoint_66 : decode cX9_checkpoint 66 = .ok (.getfield 77, 3) := by decide +kernel
theorem dX9_checkpoint_69 : decode cX9_checkpoint 69 = .ok (.invokevirtual 263, 3) := by decide +kernel
theorem dX9_checkpoint_72 : decode cX9_checkpoint 72 = .ok (.ireturn, 1) := by decide +kernel
theorem dX9_crash_0 : decode cX9_crash 0 = .ok (.aload_n 0, 1) := by decide +kernel
theorem dX9_crash_1 : decode cX9_crash 1 = .ok (.iconst 0, 1) := by decide +kernel
theorem dX9_crash_2 : decode cX9_crash 2 = .ok (.putfield 89, 3) := by decide +kernel
theorem dX9_crash_5 : decode cX9_crash 5 = .ok (.iconst 0, 1) := by decide +kernel
theorem dX9_crash_6 : decode cX9_crash 6 = .ok (.istore_n 1, 1) := by decide +kernel
theorem dX9_crash_7 : decode cX9_crash 7 = .ok (.iload_n 1, 1) := by decide +kernel
theorem dX9_crash_8 : decode cX9_crash 8 = .ok (.sipush 17280, 3) := by decide +kernel
theorem dX9_crash_11 : decode cX9_crash 11 = .ok (.if_icmp .ge 33, 3) := by decide +kernel
theorem dX9_crash_14 : decode cX9_crash 14 = .ok (.aload_n 0, 1) := by decide +kernel
theorem dX9_crash_15 : decode cX9_crash 15 = .ok (.getfield 74, 3) := by decide +kernel
theorem dX9_crash_18 : decode cX9_crash 18 = .ok (.iload_n 1, 1) := by decide +kernel
theorem dX9_crash_19 : decode cX9_crash 19 = .ok (.aload_n 0, 1) := by decide +kernel
theorem dX9_crash_20 : decode cX9_crash 20 = .ok (.getfield 71, 3) := by decide +kernel
theorem dX9_crash_23 : decode cX9_crash 23 = .ok (.iload_n 1, 1) := by decide +kernel
theorem dX9_crash_24 : decode cX9_crash 24 = .ok (.baload, 1) := by decide +kernel
theorem dX9_crash_25 : decode cX9_crash 25 = .ok (.bastore, 1) := by decide +kernel
theorem dX9_crash_26 : decode cX9_crash 26 = .ok (.aload_n 0, 1) := by decide +kernel
theorem dX9_crash_27 : decode cX9_crash 27 = .ok (.getfield 71, 3) := by decide +kernel
theorem dX9_crash_30 : decode cX9_crash 30 = .ok (.iload_n 1, 1) := by decide +kernel
theorem dX9_crash_31 : decode cX9_crash 31 = .ok (.aload_n 0, 1) := by decide +kernel
theorem dX9_crash_32 : decode cX9_crash 32 = .ok (.getfield 77, 3) := by decide +kernel
theorem dX9_crash_35 : decode cX9_crash 35 = .ok (.iload_n 1, 1) := by decide +kernel
theorem dX9_crash_36 : decode cX9_crash 36 = .ok (.baload, 1) := by decide +kernel
theorem dX9_crash_37 : decode cX9_crash 37 = .ok (.bastore, 1) := by decide +kernel
theorem dX9_crash_38 : decode cX9_crash 38 = .ok (.iinc 1 1, 3) := by decide +kernel
theorem dX9_crash_41 : decode cX9_crash 41 = .ok (.goto (-34), 3) := by decide +kernel
theorem dX9_crash_44 : decode cX9_crash 44 = .ok (.aload_n 0, 1) := by decide +kernel
theorem dX9_crash_45 : decode cX9_crash 45 = .ok (.aload_n 0, 1) := by decide +kernel
theorem dX9_crash_46 : decode cX9_crash 46 = .ok (.getfield 199, 3) := by decide +kernel
theorem dX9_crash_49 : decode cX9_crash 49 = .ok (.putfield 196, 3) := by decide +kernel
theorem dX9_crash_52 : decode cX9_crash 52 = .ok (.iconst 0, 1) := by decide +kernel
theorem dX9_crash_53 : decode cX9_crash 53 = .ok (.istore_n 1, 1) := by decide +kernel
theorem dX9_crash_54 : decode cX9_crash 54 = .ok (.iload_n 1, 1) := by decide +kernel
theorem dX9_crash_55 : decode cX9_crash 55 = .ok (.aload_n 0, 1) := by decide +kernel
theorem dX9_crash_56 : decode cX9_crash 56 = .ok (.getfield 196, 3) := by decide +kernel
theorem dX9_crash_59 : decode cX9_crash 59 = .ok (.if_icmp .ge 39, 3) := by decide +kernel
theorem dX9_crash_62 : decode cX9_crash 62 = .ok (.aload_n 0, 1) := by decide +kernel
theorem dX9_crash_63 : decode cX9_crash 63 = .ok (.getfield 71, 3) := by decide +kernel
theorem dX9_crash_66 : decode cX9_crash 66 = .ok (.aload_n 0, 1) := by decide +kernel
theorem dX9_crash_67 : decode cX9_crash 67 = .ok (.getfield 83, 3) := by decide +kernel
theorem dX9_crash_70 : decode cX9_crash 70 = .ok (.iload_n 1, 1) := by decide +kernel
theorem dX9_crash_71 : decode cX9_crash 71 = .ok (.iaload, 1) := by decide +kernel
theorem dX9_crash_72 : decode cX9_crash 72 = .ok (.iconst 2, 1) := by decide +kernel
theorem dX9_crash_73 : decode cX9_crash 73 = .ok (.idiv, 1) := by decide +kernel
theorem dX9_crash_74 : decode cX9_crash 74 = .ok (.aload_n 0, 1) := by decide +kernel
theorem dX9_crash_75 : decode cX9_crash 75 = .ok (.getfield 83, 3) := by decide +kernel
theorem dX9_crash_78 : decode cX9_crash 78 = .ok (.iload_n 1, 1) := by decide +kernel
theorem dX9_crash_79 : decode cX9_crash 79 = .ok (.iaload, 1) := by decide +kernel
theorem dX9_crash_80 : decode cX9_crash 80 = .ok (.iconst 2, 1) := by decide +kernel
theorem dX9_crash_81 : decode cX9_crash 81 = .ok (.irem, 1) := by decide +kernel
theorem dX9_crash_82 : decode cX9_crash 82 = .ok (.iconst 1, 1) := by decide +kernel
theorem dX9_crash_83 : decode cX9_crash 83 = .ok (.if_icmp .ne 7, 3) := by decide +kernel
theorem dX9_crash_86 : decode cX9_crash 86 = .ok (.iconst 1, 1) := by decide +kernel
theorem dX9_crash_87 : decode cX9_crash 87 = .ok (.goto 4, 3) := by decide +kernel
theorem dX9_crash_90 : decode cX9_crash 90 = .ok (.iconst 0, 1) := by decide +kernel
theorem dX9_crash_91 : decode cX9_crash 91 = .ok (.bastore, 1) := by decide +kernel
theorem dX9_crash_92 : decode cX9_crash 92 = .ok (.iinc 1 1, 3) := by decide +kernel
theorem dX9_crash_95 : decode cX9_crash 95 = .ok (.goto (-41), 3) := by decide +kernel
theorem dX9_crash_98 : decode cX9_crash 98 = .ok (.aload_n 0, 1) := by decide +kernel
theorem dX9_crash_99 : decode cX9_crash 99 = .ok (.iconst 0, 1) := by decide +kernel
theorem dX9_crash_100 : decode cX9_crash 100 = .ok (.putfield 193, 3) := by decide +kernel
theorem dX9_crash_103 : decode cX9_crash 103 = .ok (.aload_n 0, 1) := by decide +kernel
theorem dX9_crash_104 : decode cX9_crash 104 = .ok (.iconst 1, 1) := by decide +kernel
theorem dX9_crash_105 : decode cX9_crash 105 = .ok (.putfield 205, 3) := by decide +kernel
theorem dX9_crash_108 : decode cX9_crash 108 = .ok (.aload_n 0, 1) := by decide +kernel
theorem dX9_crash_109 : decode cX9_crash 109 = .ok (.invokevirtual 202, 3) := by decide +kernel
theorem dX9_crash_112 : decode cX9_crash 112 = .ok (.iconst 0, 1) := by decide +kernel
theorem dX9_crash_113 : decode cX9_crash 113 = .ok (.istore_n 1, 1) := by decide +kernel
theorem dX9_crash_114 : decode cX9_crash 114 = .ok (.iconst 0, 1) := by decide +kernel
theorem dX9_crash_115 : decode cX9_crash 115 = .ok (.istore_n 2, 1) := by decide +kernel
theorem dX9_crash_116 : decode cX9_crash 116 = .ok (.iload_n 2, 1) := by decide +kernel
theorem dX9_crash_117 : decode cX9_crash 117 = .ok (.sipush 17280, 3) := by decide +kernel
theorem dX9_crash_120 : decode cX9_crash 120 = .ok (.if_icmp .ge 26, 3) := by decide +kernel
theorem dX9_crash_123 : decode cX9_crash 123 = .ok (.iload_n 1, 1) := by decide +kernel
theorem dX9_crash_124 : decode cX9_crash 124 = .ok (.aload_n 0, 1) := by decide +kernel
theorem dX9_crash_125 : decode cX9_crash 125 = .ok (.getfield 71, 3) := by decide +kernel
theorem dX9_crash_128 : decode cX9_crash 128 = .ok (.iload_n 2, 1) := by decide +kernel
theorem dX9_crash_129 : decode cX9_crash 129 = .ok (.baload, 1) := by decide +kernel
theorem dX9_crash_130 : decode cX9_crash 130 = .ok (.ifCond .eq 7, 3) := by decide +kernel
theorem dX9_crash_133 : decode cX9_crash 133 = .ok (.iconst 1, 1) := by decide +kernel
theorem dX9_crash_134 : decode cX9_crash 134 = .ok (.goto 4, 3) := by decide +kernel
theorem dX9_crash_137 : decode cX9_crash 137 = .ok (.iconst 0, 1) := by decide +kernel
theorem dX9_crash_138 : decode cX9_crash 138 = .ok (.iadd, 1) := by decide +kernel
theorem dX9_crash_139 : decode cX9_crash 139 = .ok (.istore_n 1, 1) := by decide +kernel
theorem dX9_crash_140 : decode cX9_crash 140 = .ok (.iinc 2 1, 3) := by decide +kernel
theorem dX9_crash_143 : decode cX9_crash 143 = .ok (.goto (-27), 3) := by decide +kernel
theorem dX9_crash_146 : decode cX9_crash 146 = .ok (.iload_n 1, 1) := by decide +kernel
theorem dX9_crash_147 : decode cX9_crash 147 = .ok (.ireturn, 1) := by decide +kernel
theorem dX9_log_0 : decode cX9_log 0 = .ok (.aload_n 0, 1) := by decide +kernel
theorem dX9_log_1 : decode cX9_log 1 = .ok (.iconst 0, 1) := by decide +kernel
theorem dX9_log_2 : decode cX9_log 2 = .ok (.putfield 89, 3) := by decide +kernel
theorem dX9_log_5 : decode cX9_log 5 = .ok (.iload_n 1, 1) := by decide +kernel
theorem dX9_log_6 : decode cX9_log 6 = .ok (.ifCond .ne 10, 3) := by decide +kernel
theorem dX9_log_9 : decode cX9_log 9 = .ok (.aload_n 0, 1) := by decide +kernel
theorem dX9_log_10 : decode cX9_log 10 = .ok (.getfield 196, 3) := by decide +kernel
theorem dX9_log_13 : decode cX9_log 13 = .ok (.goto 44, 3) := by decide +kernel
theorem dX9_log_16 : decode cX9_log 16 = .ok (.iload_n 1, 1) := by decide +kernel
theorem dX9_log_17 : decode cX9_log 17 = .ok (.iconst 1, 1) := by decide +kernel
theorem dX9_log_18 : decode cX9_log 18 = .ok (.if_icmp .ne 10, 3) := by decide +kernel
theorem dX9_log_21 : decode cX9_log 21 = .ok (.aload_n 0, 1) := by decide +kernel
theorem dX9_log_22 : decode cX9_log 22 = .ok (.getfield 199, 3) := by decide +kernel
theorem dX9_log_25 : decode cX9_log 25 = .ok (.goto 32, 3) := by decide +kernel
theorem dX9_log_28 : decode cX9_log 28 = .ok (.iload_n 1, 1) := by decide +kernel
theorem dX9_log_29 : decode cX9_log 29 = .ok (.iconst 2, 1) := by decide +kernel
theorem dX9_log_30 : decode cX9_log 30 = .ok (.if_icmp .ne 10, 3) := by decide +kernel
theorem dX9_log_33 : decode cX9_log 33 = .ok (.aload_n 0, 1) := by decide +kernel
theorem dX9_log_34 : decode cX9_log 34 = .ok (.getfield 193, 3) := by decide +kernel
theorem dX9_log_37 : decode cX9_log 37 = .ok (.goto 20, 3) := by decide +kernel
theorem dX9_log_40 : decode cX9_log 40 = .ok (.iload_n 1, 1) := by decide +kernel
theorem dX9_log_41 : decode cX9_log 41 = .ok (.iconst 3, 1) := by decide +kernel
theorem dX9_log_42 : decode cX9_log 42 = .ok (.if_icmp .ne 14, 3) := by decide +kernel
theorem dX9_log_45 : decode cX9_log 45 = .ok (.aload_n 0, 1) := by decide +kernel
theorem dX9_log_46 : decode cX9_log 46 = .ok (.aload_n 0, 1) := by decide +kernel
theorem dX9_log_47 : decode cX9_log 47 = .ok (.getfield 77, 3) := by decide +kernel
theorem dX9_log_50 : decode cX9_log 50 = .ok (.invokevirtual 263, 3) := by decide +kernel
theorem dX9_log_53 : decode cX9_log 53 = .ok (.goto 4, 3) := by decide +kernel
theorem dX9_log_56 : decode cX9_log 56 = .ok (.iconst (-1), 1) := by decide +kernel
theorem dX9_log_57 : decode cX9_log 57 = .ok (.ireturn, 1) := by decide +kernel
