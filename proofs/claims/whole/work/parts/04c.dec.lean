theorem dX11_init_0 : decode cX11_init 0 = .ok (.aload_n 0, 1) := by decide +kernel
theorem dX11_init_1 : decode cX11_init 1 = .ok (.invokespecial 1, 3) := by decide +kernel
theorem dX11_init_4 : decode cX11_init 4 = .ok (.aload_n 0, 1) := by decide +kernel
theorem dX11_init_5 : decode cX11_init 5 = .ok (.bipush 60, 2) := by decide +kernel
theorem dX11_init_7 : decode cX11_init 7 = .ok (.bipush 8, 2) := by decide +kernel
theorem dX11_init_9 : decode cX11_init 9 = .ok (.multianewarray 9 2, 4) := by decide +kernel
theorem dX11_init_13 : decode cX11_init 13 = .ok (.putfield 11, 3) := by decide +kernel
theorem dX11_init_16 : decode cX11_init 16 = .ok (.aload_n 0, 1) := by decide +kernel
theorem dX11_init_17 : decode cX11_init 17 = .ok (.bipush 8, 2) := by decide +kernel
theorem dX11_init_19 : decode cX11_init 19 = .ok (.newarray .int, 2) := by decide +kernel
theorem dX11_init_21 : decode cX11_init 21 = .ok (.putfield 14, 3) := by decide +kernel
theorem dX11_init_24 : decode cX11_init 24 = .ok (.aload_n 0, 1) := by decide +kernel
theorem dX11_init_25 : decode cX11_init 25 = .ok (.bipush 40, 2) := by decide +kernel
theorem dX11_init_27 : decode cX11_init 27 = .ok (.newarray .int, 2) := by decide +kernel
theorem dX11_init_29 : decode cX11_init 29 = .ok (.putfield 18, 3) := by decide +kernel
theorem dX11_init_32 : decode cX11_init 32 = .ok (.aload_n 0, 1) := by decide +kernel
theorem dX11_init_33 : decode cX11_init 33 = .ok (.bipush 40, 2) := by decide +kernel
theorem dX11_init_35 : decode cX11_init 35 = .ok (.newarray .int, 2) := by decide +kernel
theorem dX11_init_37 : decode cX11_init 37 = .ok (.putfield 21, 3) := by decide +kernel
theorem dX11_init_40 : decode cX11_init 40 = .ok (.aload_n 0, 1) := by decide +kernel
theorem dX11_init_41 : decode cX11_init 41 = .ok (.bipush 40, 2) := by decide +kernel
theorem dX11_init_43 : decode cX11_init 43 = .ok (.newarray .int, 2) := by decide +kernel
theorem dX11_init_45 : decode cX11_init 45 = .ok (.putfield 24, 3) := by decide +kernel
theorem dX11_init_48 : decode cX11_init 48 = .ok (.aload_n 0, 1) := by decide +kernel
theorem dX11_init_49 : decode cX11_init 49 = .ok (.bipush 40, 2) := by decide +kernel
theorem dX11_init_51 : decode cX11_init 51 = .ok (.newarray .int, 2) := by decide +kernel
theorem dX11_init_53 : decode cX11_init 53 = .ok (.putfield 27, 3) := by decide +kernel
theorem dX11_init_56 : decode cX11_init 56 = .ok (.aload_n 0, 1) := by decide +kernel
theorem dX11_init_57 : decode cX11_init 57 = .ok (.bipush 40, 2) := by decide +kernel
theorem dX11_init_59 : decode cX11_init 59 = .ok (.newarray .int, 2) := by decide +kernel
theorem dX11_init_61 : decode cX11_init 61 = .ok (.putfield 30, 3) := by decide +kernel
theorem dX11_init_64 : decode cX11_init 64 = .ok (.aload_n 0, 1) := by decide +kernel
theorem dX11_init_65 : decode cX11_init 65 = .ok (.bipush 40, 2) := by decide +kernel
theorem dX11_init_67 : decode cX11_init 67 = .ok (.newarray .int, 2) := by decide +kernel
theorem dX11_init_69 : decode cX11_init 69 = .ok (.putfield 33, 3) := by decide +kernel
theorem dX11_init_72 : decode cX11_init 72 = .ok (.aload_n 0, 1) := by decide +kernel
theorem dX11_init_73 : decode cX11_init 73 = .ok (.bipush 40, 2) := by decide +kernel
theorem dX11_init_75 : decode cX11_init 75 = .ok (.newarray .int, 2) := by decide +kernel
theorem dX11_init_77 : decode cX11_init 77 = .ok (.putfield 36, 3) := by decide +kernel
theorem dX11_init_80 : decode cX11_init 80 = .ok (.aload_n 0, 1) := by decide +kernel
theorem dX11_init_81 : decode cX11_init 81 = .ok (.sipush 200, 3) := by decide +kernel
theorem dX11_init_84 : decode cX11_init 84 = .ok (.newarray .int, 2) := by decide +kernel
theorem dX11_init_86 : decode cX11_init 86 = .ok (.putfield 39, 3) := by decide +kernel
theorem dX11_init_89 : decode cX11_init 89 = .ok (.aload_n 0, 1) := by decide +kernel
theorem dX11_init_90 : decode cX11_init 90 = .ok (.sipush 200, 3) := by decide +kernel
theorem dX11_init_93 : decode cX11_init 93 = .ok (.newarray .int, 2) := by decide +kernel
theorem dX11_init_95 : decode cX11_init 95 = .ok (.putfield 42, 3) := by decide +kernel
theorem dX11_init_98 : decode cX11_init 98 = .ok (.aload_n 0, 1) := by decide +kernel
theorem dX11_init_99 : decode cX11_init 99 = .ok (.sipush 200, 3) := by decide +kernel
theorem dX11_init_102 : decode cX11_init 102 = .ok (.newarray .int, 2) := by decide +kernel
theorem dX11_init_104 : decode cX11_init 104 = .ok (.putfield 45, 3) := by decide +kernel
theorem dX11_init_107 : decode cX11_init 107 = .ok (.aload_n 0, 1) := by decide +kernel
theorem dX11_init_108 : decode cX11_init 108 = .ok (.sipush 20001, 3) := by decide +kernel
theorem dX11_init_111 : decode cX11_init 111 = .ok (.newarray .boolean, 2) := by decide +kernel
theorem dX11_init_113 : decode cX11_init 113 = .ok (.putfield 48, 3) := by decide +kernel
theorem dX11_init_116 : decode cX11_init 116 = .ok (.aload_n 0, 1) := by decide +kernel
theorem dX11_init_117 : decode cX11_init 117 = .ok (.bipush 60, 2) := by decide +kernel
theorem dX11_init_119 : decode cX11_init 119 = .ok (.newarray .int, 2) := by decide +kernel
theorem dX11_init_121 : decode cX11_init 121 = .ok (.putfield 52, 3) := by decide +kernel
theorem dX11_init_124 : decode cX11_init 124 = .ok (.aload_n 0, 1) := by decide +kernel
theorem dX11_init_125 : decode cX11_init 125 = .ok (.bipush 60, 2) := by decide +kernel
theorem dX11_init_127 : decode cX11_init 127 = .ok (.newarray .int, 2) := by decide +kernel
theorem dX11_init_129 : decode cX11_init 129 = .ok (.putfield 55, 3) := by decide +kernel
theorem dX11_init_132 : decode cX11_init 132 = .ok (.aload_n 0, 1) := by decide +kernel
theorem dX11_init_133 : decode cX11_init 133 = .ok (.bipush 60, 2) := by decide +kernel
theorem dX11_init_135 : decode cX11_init 135 = .ok (.newarray .int, 2) := by decide +kernel
theorem dX11_init_137 : decode cX11_init 137 = .ok (.putfield 58, 3) := by decide +kernel
theorem dX11_init_140 : decode cX11_init 140 = .ok (.aload_n 0, 1) := by decide +kernel
theorem dX11_init_141 : decode cX11_init 141 = .ok (.bipush 60, 2) := by decide +kernel
theorem dX11_init_143 : decode cX11_init 143 = .ok (.newarray .int, 2) := by decide +kernel
theorem dX11_init_145 : decode cX11_init 145 = .ok (.putfield 61, 3) := by decide +kernel
theorem dX11_init_148 : decode cX11_init 148 = .ok (.aload_n 0, 1) := by decide +kernel
theorem dX11_init_149 : decode cX11_init 149 = .ok (.bipush 60, 2) := by decide +kernel
theorem dX11_init_151 : decode cX11_init 151 = .ok (.newarray .int, 2) := by decide +kernel
theorem dX11_init_153 : decode cX11_init 153 = .ok (.putfield 64, 3) := by decide +kernel
theorem dX11_init_156 : decode cX11_init 156 = .ok (.aload_n 0, 1) := by decide +kernel
theorem dX11_init_157 : decode cX11_init 157 = .ok (.bipush 60, 2) := by decide +kernel
theorem dX11_init_159 : decode cX11_init 159 = .ok (.newarray .int, 2) := by decide +kernel
theorem dX11_init_161 : decode cX11_init 161 = .ok (.putfield 67, 3) := by decide +kernel
theorem dX11_init_164 : decode cX11_init 164 = .ok (.aload_n 0, 1) := by decide +kernel
theorem dX11_init_165 : decode cX11_init 165 = .ok (.bipush 60, 2) := by decide +kernel
theorem dX11_init_167 : decode cX11_init 167 = .ok (.newarray .int, 2) := by decide +kernel
theorem dX11_init_169 : decode cX11_init 169 = .ok (.putfield 70, 3) := by decide +kernel
theorem dX11_init_172 : decode cX11_init 172 = .ok (.aload_n 0, 1) := by decide +kernel
theorem dX11_init_173 : decode cX11_init 173 = .ok (.bipush 60, 2) := by decide +kernel
theorem dX11_init_175 : decode cX11_init 175 = .ok (.newarray .int, 2) := by decide +kernel
theorem dX11_init_177 : decode cX11_init 177 = .ok (.putfield 73, 3) := by decide +kernel
theorem dX11_init_180 : decode cX11_init 180 = .ok (.aload_n 0, 1) := by decide +kernel
theorem dX11_init_181 : decode cX11_init 181 = .ok (.bipush 6, 2) := by decide +kernel
theorem dX11_init_183 : decode cX11_init 183 = .ok (.newarray .int, 2) := by decide +kernel
theorem dX11_init_185 : decode cX11_init 185 = .ok (.putfield 76, 3) := by decide +kernel
theorem dX11_init_188 : decode cX11_init 188 = .ok (.aload_n 0, 1) := by decide +kernel
theorem dX11_init_189 : decode cX11_init 189 = .ok (.bipush 60, 2) := by decide +kernel
theorem dX11_init_191 : decode cX11_init 191 = .ok (.bipush 8, 2) := by decide +kernel
theorem dX11_init_193 : decode cX11_init 193 = .ok (.multianewarray 9 2, 4) := by decide +kernel
theorem dX11_init_197 : decode cX11_init 197 = .ok (.putfield 79, 3) := by decide +kernel
theorem dX11_init_200 : decode cX11_init 200 = .ok (.aload_n 0, 1) := by decide +kernel
theorem dX11_init_201 : decode cX11_init 201 = .ok (.bipush 100, 2) := by decide +kernel
theorem dX11_init_203 : decode cX11_init 203 = .ok (.newarray .int, 2) := by decide +kernel
theorem dX11_init_205 : decode cX11_init 205 = .ok (.putfield 82, 3) := by decide +kernel
theorem dX11_init_208 : decode cX11_init 208 = .ok (.aload_n 0, 1) := by decide +kernel
theorem dX11_init_209 : decode cX11_init 209 = .ok (.bipush 100, 2) := by decide +kernel
theorem dX11_init_211 : decode cX11_init 211 = .ok (.newarray .int, 2) := by decide +kernel
theorem dX11_init_213 : decode cX11_init 213 = .ok (.putfield 85, 3) := by decide +kernel
theorem dX11_init_216 : decode cX11_init 216 = .ok (.aload_n 0, 1) := by decide +kernel
theorem dX11_init_217 : decode cX11_init 217 = .ok (.bipush 100, 2) := by decide +kernel
theorem dX11_init_219 : decode cX11_init 219 = .ok (.newarray .int, 2) := by decide +kernel
theorem dX11_init_221 : decode cX11_init 221 = .ok (.putfield 88, 3) := by decide +kernel
theorem dX11_init_224 : decode cX11_init 224 = .ok (.aload_n 0, 1) := by decide +kernel
theorem dX11_init_225 : decode cX11_init 225 = .ok (.bipush 100, 2) := by decide +kernel
theorem dX11_init_227 : decode cX11_init 227 = .ok (.newarray .int, 2) := by decide +kernel
theorem dX11_init_229 : decode cX11_init 229 = .ok (.putfield 91, 3) := by decide +kernel
theorem dX11_init_232 : decode cX11_init 232 = .ok (.return_, 1) := by decide +kernel
theorem dX11_in_0 : decode cX11_in 0 = .ok (.iload_n 0, 1) := by decide +kernel
theorem dX11_in_1 : decode cX11_in 1 = .ok (.iload_n 1, 1) := by decide +kernel
theorem dX11_in_2 : decode cX11_in 2 = .ok (.if_icmp .lt 12, 3) := by decide +kernel
theorem dX11_in_5 : decode cX11_in 5 = .ok (.iload_n 0, 1) := by decide +kernel
theorem dX11_in_6 : decode cX11_in 6 = .ok (.iload_n 2, 1) := by decide +kernel
theorem dX11_in_7 : decode cX11_in 7 = .ok (.if_icmp .gt 7, 3) := by decide +kernel
theorem dX11_in_10 : decode cX11_in 10 = .ok (.iconst 1, 1) := by decide +kernel
theorem dX11_in_11 : decode cX11_in 11 = .ok (.goto 4, 3) := by decide +kernel
theorem dX11_in_14 : decode cX11_in 14 = .ok (.iconst 0, 1) := by decide +kernel
theorem dX11_in_15 : decode cX11_in 15 = .ok (.ireturn, 1) := by decide +kernel
theorem dX11_isPerson_0 : decode cX11_isPerson 0 = .ok (.iload_n 1, 1) := by decide +kernel
theorem dX11_isPerson_1 : decode cX11_isPerson 1 = .ok (.iconst 0, 1) := by decide +kernel
theorem dX11_isPerson_2 : decode cX11_isPerson 2 = .ok (.aload_n 0, 1) := by decide +kernel
theorem dX11_isPerson_3 : decode cX11_isPerson 3 = .ok (.getfield 94, 3) := by decide +kernel
theorem dX11_isPerson_6 : decode cX11_isPerson 6 = .ok (.iconst 1, 1) := by decide +kernel
theorem dX11_isPerson_7 : decode cX11_isPerson 7 = .ok (.isub, 1) := by decide +kernel
theorem dX11_isPerson_8 : decode cX11_isPerson 8 = .ok (.invokestatic 98, 3) := by decide +kernel
theorem dX11_isPerson_11 : decode cX11_isPerson 11 = .ok (.ireturn, 1) := by decide +kernel
theorem dX11_isNotice_0 : decode cX11_isNotice 0 = .ok (.iload_n 1, 1) := by decide +kernel
theorem dX11_isNotice_1 : decode cX11_isNotice 1 = .ok (.iconst 0, 1) := by decide +kernel
theorem dX11_isNotice_2 : decode cX11_isNotice 2 = .ok (.aload_n 0, 1) := by decide +kernel
theorem dX11_isNotice_3 : decode cX11_isNotice 3 = .ok (.getfield 102, 3) := by decide +kernel
theorem dX11_isNotice_6 : decode cX11_isNotice 6 = .ok (.iconst 1, 1) := by decide +kernel
theorem dX11_isNotice_7 : decode cX11_isNotice 7 = .ok (.isub, 1) := by decide +kernel
theorem dX11_isNotice_8 : decode cX11_isNotice 8 = .ok (.invokestatic 98, 3) := by decide +kernel
theorem dX11_isNotice_11 : decode cX11_isNotice 11 = .ok (.ireturn, 1) := by decide +kernel
theorem dX11_law_0 : decode cX11_law 0 = .ok (.iload_n 3, 1) := by decide +kernel
theorem dX11_law_1 : decode cX11_law 1 = .ok (.ldc 105, 2) := by decide +kernel
theorem dX11_law_3 : decode cX11_law 3 = .ok (.idiv, 1) := by decide +kernel
theorem dX11_law_4 : decode cX11_law 4 = .ok (.istore 5, 2) := by decide +kernel
theorem dX11_law_6 : decode cX11_law 6 = .ok (.iload_n 3, 1) := by decide +kernel
theorem dX11_law_7 : decode cX11_law 7 = .ok (.ldc 106, 2) := by decide +kernel
theorem dX11_law_9 : decode cX11_law 9 = .ok (.idiv, 1) := by decide +kernel
theorem dX11_law_10 : decode cX11_law 10 = .ok (.bipush 10, 2) := by decide +kernel
theorem dX11_law_12 : decode cX11_law 12 = .ok (.irem, 1) := by decide +kernel
theorem dX11_law_13 : decode cX11_law 13 = .ok (.istore 6, 2) := by decide +kernel
theorem dX11_law_15 : decode cX11_law 15 = .ok (.iload_n 3, 1) := by decide +kernel
theorem dX11_law_16 : decode cX11_law 16 = .ok (.sipush 10000, 3) := by decide +kernel
theorem dX11_law_19 : decode cX11_law 19 = .ok (.idiv, 1) := by decide +kernel
theorem dX11_law_20 : decode cX11_law 20 = .ok (.bipush 10, 2) := by decide +kernel
theorem dX11_law_22 : decode cX11_law 22 = .ok (.irem, 1) := by decide +kernel
theorem dX11_law_23 : decode cX11_law 23 = .ok (.istore 7, 2) := by decide +kernel
theorem dX11_law_25 : decode cX11_law 25 = .ok (.iload_n 3, 1) := by decide +kernel
theorem dX11_law_26 : decode cX11_law 26 = .ok (.sipush 1000, 3) := by decide +kernel
theorem dX11_law_29 : decode cX11_law 29 = .ok (.idiv, 1) := by decide +kernel
theorem dX11_law_30 : decode cX11_law 30 = .ok (.bipush 10, 2) := by decide +kernel
theorem dX11_law_32 : decode cX11_law 32 = .ok (.irem, 1) := by decide +kernel
theorem dX11_law_33 : decode cX11_law 33 = .ok (.istore 8, 2) := by decide +kernel
theorem dX11_law_35 : decode cX11_law 35 = .ok (.iload_n 3, 1) := by decide +kernel
theorem dX11_law_36 : decode cX11_law 36 = .ok (.sipush 1000, 3) := by decide +kernel
theorem dX11_law_39 : decode cX11_law 39 = .ok (.irem, 1) := by decide +kernel
theorem dX11_law_40 : decode cX11_law 40 = .ok (.istore 9, 2) := by decide +kernel
theorem dX11_law_42 : decode cX11_law 42 = .ok (.iload_n 1, 1) := by decide +kernel
theorem dX11_law_43 : decode cX11_law 43 = .ok (.iconst 0, 1) := by decide +kernel
theorem dX11_law_44 : decode cX11_law 44 = .ok (.iconst 5, 1) := by decide +kernel
theorem dX11_law_45 : decode cX11_law 45 = .ok (.invokestatic 98, 3) := by decide +kernel
theorem dX11_law_48 : decode cX11_law 48 = .ok (.ifCond .eq 76, 3) := by decide +kernel
theorem dX11_law_51 : decode cX11_law 51 = .ok (.iload_n 2, 1) := by decide +kernel
theorem dX11_law_52 : decode cX11_law 52 = .ok (.iconst 0, 1) := by decide +kernel
theorem dX11_law_53 : decode cX11_law 53 = .ok (.sipush 20000, 3) := by decide +kernel
theorem dX11_law_56 : decode cX11_law 56 = .ok (.invokestatic 98, 3) := by decide +kernel
theorem dX11_law_59 : decode cX11_law 59 = .ok (.ifCond .eq 65, 3) := by decide +kernel
theorem dX11_law_62 : decode cX11_law 62 = .ok (.iload_n 3, 1) := by decide +kernel
theorem dX11_law_63 : decode cX11_law 63 = .ok (.ifCond .lt 61, 3) := by decide +kernel
theorem dX11_law_66 : decode cX11_law 66 = .ok (.iload 5, 2) := by decide +kernel
theorem dX11_law_68 : decode cX11_law 68 = .ok (.bipush 30, 2) := by decide +kernel
theorem dX11_law_70 : decode cX11_law 70 = .ok (.if_icmp .gt 54, 3) := by decide +kernel
theorem dX11_law_73 : decode cX11_law 73 = .ok (.iload 6, 2) := by decide +kernel
theorem dX11_law_75 : decode cX11_law 75 = .ok (.iconst 3, 1) := by decide +kernel
theorem dX11_law_76 : decode cX11_law 76 = .ok (.if_icmp .gt 48, 3) := by decide +kernel
theorem dX11_law_79 : decode cX11_law 79 = .ok (.iload 7, 2) := by decide +kernel
theorem dX11_law_81 : decode cX11_law 81 = .ok (.bipush 7, 2) := by decide +kernel
theorem dX11_law_83 : decode cX11_law 83 = .ok (.if_icmp .gt 41, 3) := by decide +kernel
theorem dX11_law_86 : decode cX11_law 86 = .ok (.iload 8, 2) := by decide +kernel
theorem dX11_law_88 : decode cX11_law 88 = .ok (.iconst 2, 1) := by decide +kernel
theorem dX11_law_89 : decode cX11_law 89 = .ok (.if_icmp .gt 35, 3) := by decide +kernel
theorem dX11_law_92 : decode cX11_law 92 = .ok (.iload 9, 2) := by decide +kernel
theorem dX11_law_94 : decode cX11_law 94 = .ok (.iconst 1, 1) := by decide +kernel
theorem dX11_law_95 : decode cX11_law 95 = .ok (.sipush 400, 3) := by decide +kernel
theorem dX11_law_98 : decode cX11_law 98 = .ok (.invokestatic 98, 3) := by decide +kernel
theorem dX11_law_101 : decode cX11_law 101 = .ok (.ifCond .eq 23, 3) := by decide +kernel
theorem dX11_law_104 : decode cX11_law 104 = .ok (.iload 4, 2) := by decide +kernel
theorem dX11_law_106 : decode cX11_law 106 = .ok (.iconst 0, 1) := by decide +kernel
theorem dX11_law_107 : decode cX11_law 107 = .ok (.bipush 30, 2) := by decide +kernel
theorem dX11_law_109 : decode cX11_law 109 = .ok (.invokestatic 98, 3) := by decide +kernel
theorem dX11_law_112 : decode cX11_law 112 = .ok (.ifCond .eq 12, 3) := by decide +kernel
theorem dX11_law_115 : decode cX11_law 115 = .ok (.aload_n 0, 1) := by decide +kernel
theorem dX11_law_116 : decode cX11_law 116 = .ok (.getfield 107, 3) := by decide +kernel
theorem dX11_law_119 : decode cX11_law 119 = .ok (.bipush 60, 2) := by decide +kernel
theorem dX11_law_121 : decode cX11_law 121 = .ok (.if_icmp .ne 5, 3) := by decide +kernel
theorem dX11_law_124 : decode cX11_law 124 = .ok (.iconst 0, 1) := by decide +kernel
theorem dX11_law_125 : decode cX11_law 125 = .ok (.ireturn, 1) := by decide +kernel
theorem dX11_law_126 : decode cX11_law 126 = .ok (.aload_n 0, 1) := by decide +kernel
theorem dX11_law_127 : decode cX11_law 127 = .ok (.getfield 11, 3) := by decide +kernel
theorem dX11_law_130 : decode cX11_law 130 = .ok (.aload_n 0, 1) := by decide +kernel
theorem dX11_law_131 : decode cX11_law 131 = .ok (.getfield 107, 3) := by decide +kernel
theorem dX11_law_134 : decode cX11_law 134 = .ok (.aaload, 1) := by decide +kernel
theorem dX11_law_135 : decode cX11_law 135 = .ok (.astore 10, 2) := by decide +kernel
theorem dX11_law_137 : decode cX11_law 137 = .ok (.aload 10, 2) := by decide +kernel
theorem dX11_law_139 : decode cX11_law 139 = .ok (.iconst 0, 1) := by decide +kernel
theorem dX11_law_140 : decode cX11_law 140 = .ok (.iload_n 1, 1) := by decide +kernel
theorem dX11_law_141 : decode cX11_law 141 = .ok (.iastore, 1) := by decide +kernel
theorem dX11_law_142 : decode cX11_law 142 = .ok (.aload 10, 2) := by decide +kernel
theorem dX11_law_144 : decode cX11_law 144 = .ok (.iconst 1, 1) := by decide +kernel
theorem dX11_law_145 : decode cX11_law 145 = .ok (.iload_n 2, 1) := by decide +kernel
theorem dX11_law_146 : decode cX11_law 146 = .ok (.iastore, 1) := by decide +kernel
theorem dX11_law_147 : decode cX11_law 147 = .ok (.aload 10, 2) := by decide +kernel
theorem dX11_law_149 : decode cX11_law 149 = .ok (.iconst 2, 1) := by decide +kernel
theorem dX11_law_150 : decode cX11_law 150 = .ok (.iload 5, 2) := by decide +kernel
theorem dX11_law_152 : decode cX11_law 152 = .ok (.iastore, 1) := by decide +kernel
theorem dX11_law_153 : decode cX11_law 153 = .ok (.aload 10, 2) := by decide +kernel
theorem dX11_law_155 : decode cX11_law 155 = .ok (.iconst 3, 1) := by decide +kernel
theorem dX11_law_156 : decode cX11_law 156 = .ok (.iload 6, 2) := by decide +kernel
theorem dX11_law_158 : decode cX11_law 158 = .ok (.iastore, 1) := by decide +kernel
theorem dX11_law_159 : decode cX11_law 159 = .ok (.aload 10, 2) := by decide +kernel
theorem dX11_law_161 : decode cX11_law 161 = .ok (.iconst 4, 1) := by decide +kernel
theorem dX11_law_162 : decode cX11_law 162 = .ok (.iload 7, 2) := by decide +kernel
theorem dX11_law_164 : decode cX11_law 164 = .ok (.iastore, 1) := by decide +kernel
theorem dX11_law_165 : decode cX11_law 165 = .ok (.aload 10, 2) := by decide +kernel
theorem dX11_law_167 : decode cX11_law 167 = .ok (.iconst 5, 1) := by decide +kernel
theorem dX11_law_168 : decode cX11_law 168 = .ok (.iload 9, 2) := by decide +kernel
theorem dX11_law_170 : decode cX11_law 170 = .ok (.iastore, 1) := by decide +kernel
theorem dX11_law_171 : decode cX11_law 171 = .ok (.aload 10, 2) := by decide +kernel
theorem dX11_law_173 : decode cX11_law 173 = .ok (.bipush 6, 2) := by decide +kernel
theorem dX11_law_175 : decode cX11_law 175 = .ok (.iload 4, 2) := by decide +kernel
theorem dX11_law_177 : decode cX11_law 177 = .ok (.iastore, 1) := by decide +kernel
theorem dX11_law_178 : decode cX11_law 178 = .ok (.aload 10, 2) := by decide +kernel
theorem dX11_law_180 : decode cX11_law 180 = .ok (.bipush 7, 2) := by decide +kernel
theorem dX11_law_182 : decode cX11_law 182 = .ok (.iload 8, 2) := by decide +kernel
theorem dX11_law_184 : decode cX11_law 184 = .ok (.iastore, 1) := by decide +kernel
theorem dX11_law_185 : decode cX11_law 185 = .ok (.aload_n 0, 1) := by decide +kernel
theorem dX11_law_186 : decode cX11_law 186 = .ok (.dup, 1) := by decide +kernel
theorem dX11_law_187 : decode cX11_law 187 = .ok (.getfield 107, 3) := by decide +kernel
theorem dX11_law_190 : decode cX11_law 190 = .ok (.iconst 1, 1) := by decide +kernel
theorem dX11_law_191 : decode cX11_law 191 = .ok (.iadd, 1) := by decide +kernel
theorem dX11_law_192 : decode cX11_law 192 = .ok (.putfield 107, 3) := by decide +kernel
theorem dX11_law_195 : decode cX11_law 195 = .ok (.iconst 1, 1) := by decide +kernel
theorem dX11_law_196 : decode cX11_law 196 = .ok (.ireturn, 1) := by decide +kernel
theorem dX11_inForce_0 : decode cX11_inForce 0 = .ok (.iconst (-1), 1) := by decide +kernel
theorem dX11_inForce_1 : decode cX11_inForce 1 = .ok (.istore_n 3, 1) := by decide +kernel
theorem dX11_inForce_2 : decode cX11_inForce 2 = .ok (.iconst 0, 1) := by decide +kernel
theorem dX11_inForce_3 : decode cX11_inForce 3 = .ok (.istore 4, 2) := by decide +kernel
theorem dX11_inForce_5 : decode cX11_inForce 5 = .ok (.iload 4, 2) := by decide +kernel
theorem dX11_inForce_7 : decode cX11_inForce 7 = .ok (.aload_n 0, 1) := by decide +kernel
theorem dX11_inForce_8 : decode cX11_inForce 8 = .ok (.getfield 107, 3) := by decide +kernel
theorem dX11_inForce_11 : decode cX11_inForce 11 = .ok (.if_icmp .ge 63, 3) := by decide +kernel
theorem dX11_inForce_14 : decode cX11_inForce 14 = .ok (.aload_n 0, 1) := by decide +kernel
theorem dX11_inForce_15 : decode cX11_inForce 15 = .ok (.getfield 11, 3) := by decide +kernel
theorem dX11_inForce_18 : decode cX11_inForce 18 = .ok (.iload 4, 2) := by decide +kernel
theorem dX11_inForce_20 : decode cX11_inForce 20 = .ok (.aaload, 1) := by decide +kernel
theorem dX11_inForce_21 : decode cX11_inForce 21 = .ok (.iconst 0, 1) := by decide +kernel
theorem dX11_inForce_22 : decode cX11_inForce 22 = .ok (.iaload, 1) := by decide +kernel
theorem dX11_inForce_23 : decode cX11_inForce 23 = .ok (.iload_n 1, 1) := by decide +kernel
theorem dX11_inForce_24 : decode cX11_inForce 24 = .ok (.if_icmp .ne 44, 3) := by decide +kernel
theorem dX11_inForce_27 : decode cX11_inForce 27 = .ok (.aload_n 0, 1) := by decide +kernel
theorem dX11_inForce_28 : decode cX11_inForce 28 = .ok (.getfield 11, 3) := by decide +kernel
theorem dX11_inForce_31 : decode cX11_inForce 31 = .ok (.iload 4, 2) := by decide +kernel
theorem dX11_inForce_33 : decode cX11_inForce 33 = .ok (.aaload, 1) := by decide +kernel
theorem dX11_inForce_34 : decode cX11_inForce 34 = .ok (.iconst 1, 1) := by decide +kernel
theorem dX11_inForce_35 : decode cX11_inForce 35 = .ok (.iaload, 1) := by decide +kernel
theorem dX11_inForce_36 : decode cX11_inForce 36 = .ok (.iload_n 2, 1) := by decide +kernel
theorem dX11_inForce_37 : decode cX11_inForce 37 = .ok (.if_icmp .gt 31, 3) := by decide +kernel
theorem dX11_inForce_40 : decode cX11_inForce 40 = .ok (.iload_n 3, 1) := by decide +kernel
theorem dX11_inForce_41 : decode cX11_inForce 41 = .ok (.iconst (-1), 1) := by decide +kernel
theorem dX11_inForce_42 : decode cX11_inForce 42 = .ok (.if_icmp .eq 23, 3) := by decide +kernel
theorem dX11_inForce_45 : decode cX11_inForce 45 = .ok (.aload_n 0, 1) := by decide +kernel
theorem dX11_inForce_46 : decode cX11_inForce 46 = .ok (.getfield 11, 3) := by decide +kernel
theorem dX11_inForce_49 : decode cX11_inForce 49 = .ok (.iload 4, 2) := by decide +kernel
theorem dX11_inForce_51 : decode cX11_inForce 51 = .ok (.aaload, 1) := by decide +kernel
theorem dX11_inForce_52 : decode cX11_inForce 52 = .ok (.iconst 1, 1) := by decide +kernel
theorem dX11_inForce_53 : decode cX11_inForce 53 = .ok (.iaload, 1) := by decide +kernel
theorem dX11_inForce_54 : decode cX11_inForce 54 = .ok (.aload_n 0, 1) := by decide +kernel
theorem dX11_inForce_55 : decode cX11_inForce 55 = .ok (.getfield 11, 3) := by decide +kernel
theorem dX11_inForce_58 : decode cX11_inForce 58 = .ok (.iload_n 3, 1) := by decide +kernel
theorem dX11_inForce_59 : decode cX11_inForce 59 = .ok (.aaload, 1) := by decide +kernel
theorem dX11_inForce_60 : decode cX11_inForce 60 = .ok (.iconst 1, 1) := by decide +kernel
theorem dX11_inForce_61 : decode cX11_inForce 61 = .ok (.iaload, 1) := by decide +kernel
theorem dX11_inForce_62 : decode cX11_inForce 62 = .ok (.if_icmp .lt 6, 3) := by decide +kernel
theorem dX11_inForce_65 : decode cX11_inForce 65 = .ok (.iload 4, 2) := by decide +kernel
theorem dX11_inForce_67 : decode cX11_inForce 67 = .ok (.istore_n 3, 1) := by decide +kernel
theorem dX11_inForce_68 : decode cX11_inForce 68 = .ok (.iinc 4 1, 3) := by decide +kernel
theorem dX11_inForce_71 : decode cX11_inForce 71 = .ok (.goto (-66), 3) := by decide +kernel
theorem dX11_inForce_74 : decode cX11_inForce 74 = .ok (.iload_n 3, 1) := by decide +kernel
theorem dX11_inForce_75 : decode cX11_inForce 75 = .ok (.iconst (-1), 1) := by decide +kernel
theorem dX11_inForce_76 : decode cX11_inForce 76 = .ok (.if_icmp .eq 10, 3) := by decide +kernel
theorem dX11_inForce_79 : decode cX11_inForce 79 = .ok (.aload_n 0, 1) := by decide +kernel
theorem dX11_inForce_80 : decode cX11_inForce 80 = .ok (.getfield 11, 3) := by decide +kernel
theorem dX11_inForce_83 : decode cX11_inForce 83 = .ok (.iload_n 3, 1) := by decide +kernel
theorem dX11_inForce_84 : decode cX11_inForce 84 = .ok (.aaload, 1) := by decide +kernel
theorem dX11_inForce_85 : decode cX11_inForce 85 = .ok (.areturn, 1) := by decide +kernel
theorem dX11_inForce_86 : decode cX11_inForce 86 = .ok (.iconst 0, 1) := by decide +kernel
theorem dX11_inForce_87 : decode cX11_inForce 87 = .ok (.istore 4, 2) := by decide +kernel
theorem dX11_inForce_89 : decode cX11_inForce 89 = .ok (.iload 4, 2) := by decide +kernel
theorem dX11_inForce_91 : decode cX11_inForce 91 = .ok (.bipush 8, 2) := by decide +kernel
theorem dX11_inForce_93 : decode cX11_inForce 93 = .ok (.if_icmp .ge 27, 3) := by decide +kernel
theorem dX11_inForce_96 : decode cX11_inForce 96 = .ok (.aload_n 0, 1) := by decide +kernel
theorem dX11_inForce_97 : decode cX11_inForce 97 = .ok (.getfield 14, 3) := by decide +kernel
theorem dX11_inForce_100 : decode cX11_inForce 100 = .ok (.iload 4, 2) := by decide +kernel
theorem dX11_inForce_102 : decode cX11_inForce 102 = .ok (.iload 4, 2) := by decide +kernel
theorem dX11_inForce_104 : decode cX11_inForce 104 = .ok (.iconst 5, 1) := by decide +kernel
theorem dX11_inForce_105 : decode cX11_inForce 105 = .ok (.if_icmp .ne 7, 3) := by decide +kernel
theorem dX11_inForce_108 : decode cX11_inForce 108 = .ok (.iconst 1, 1) := by decide +kernel
theorem dX11_inForce_109 : decode cX11_inForce 109 = .ok (.goto 4, 3) := by decide +kernel
theorem dX11_inForce_112 : decode cX11_inForce 112 = .ok (.iconst 0, 1) := by decide +kernel
theorem dX11_inForce_113 : decode cX11_inForce 113 = .ok (.iastore, 1) := by decide +kernel
theorem dX11_inForce_114 : decode cX11_inForce 114 = .ok (.iinc 4 1, 3) := by decide +kernel
theorem dX11_inForce_117 : decode cX11_inForce 117 = .ok (.goto (-28), 3) := by decide +kernel
theorem dX11_inForce_120 : decode cX11_inForce 120 = .ok (.aload_n 0, 1) := by decide +kernel
theorem dX11_inForce_121 : decode cX11_inForce 121 = .ok (.getfield 14, 3) := by decide +kernel
theorem dX11_inForce_124 : decode cX11_inForce 124 = .ok (.areturn, 1) := by decide +kernel
theorem dX11_asks_0 : decode cX11_asks 0 = .ok (.aload_n 0, 1) := by decide +kernel
theorem dX11_asks_1 : decode cX11_asks 1 = .ok (.aload_n 0, 1) := by decide +kernel
theorem dX11_asks_2 : decode cX11_asks 2 = .ok (.getfield 18, 3) := by decide +kernel
theorem dX11_asks_5 : decode cX11_asks 5 = .ok (.iload_n 1, 1) := by decide +kernel
theorem dX11_asks_6 : decode cX11_asks 6 = .ok (.iaload, 1) := by decide +kernel
theorem dX11_asks_7 : decode cX11_asks 7 = .ok (.iload_n 2, 1) := by decide +kernel
theorem dX11_asks_8 : decode cX11_asks 8 = .ok (.invokevirtual 110, 3) := by decide +kernel
theorem dX11_asks_11 : decode cX11_asks 11 = .ok (.iload_n 3, 1) := by decide +kernel
theorem dX11_asks_12 : decode cX11_asks 12 = .ok (.iaload, 1) := by decide +kernel
theorem dX11_asks_13 : decode cX11_asks 13 = .ok (.ireturn, 1) := by decide +kernel
theorem dX11_person_0 : decode cX11_person 0 = .ok (.iload_n 1, 1) := by decide +kernel
theorem dX11_person_1 : decode cX11_person 1 = .ok (.ldc 105, 2) := by decide +kernel
theorem dX11_person_3 : decode cX11_person 3 = .ok (.idiv, 1) := by decide +kernel
theorem dX11_person_4 : decode cX11_person 4 = .ok (.istore 5, 2) := by decide +kernel
theorem dX11_person_6 : decode cX11_person 6 = .ok (.iload_n 1, 1) := by decide +kernel
theorem dX11_person_7 : decode cX11_person 7 = .ok (.sipush 10000, 3) := by decide +kernel
theorem dX11_person_10 : decode cX11_person 10 = .ok (.idiv, 1) := by decide +kernel
theorem dX11_person_11 : decode cX11_person 11 = .ok (.bipush 100, 2) := by decide +kernel
theorem dX11_person_13 : decode cX11_person 13 = .ok (.irem, 1) := by decide +kernel
theorem dX11_person_14 : decode cX11_person 14 = .ok (.istore 6, 2) := by decide +kernel
theorem dX11_person_16 : decode cX11_person 16 = .ok (.iload_n 1, 1) := by decide +kernel
theorem dX11_person_17 : decode cX11_person 17 = .ok (.sipush 10000, 3) := by decide +kernel
theorem dX11_person_20 : decode cX11_person 20 = .ok (.irem, 1) := by decide +kernel
theorem dX11_person_21 : decode cX11_person 21 = .ok (.istore 7, 2) := by decide +kernel
theorem dX11_person_23 : decode cX11_person 23 = .ok (.iload_n 1, 1) := by decide +kernel
theorem dX11_person_24 : decode cX11_person 24 = .ok (.ifCond .lt 65, 3) := by decide +kernel
theorem dX11_person_27 : decode cX11_person 27 = .ok (.iload 5, 2) := by decide +kernel
theorem dX11_person_29 : decode cX11_person 29 = .ok (.bipush 6, 2) := by decide +kernel
theorem dX11_person_31 : decode cX11_person 31 = .ok (.if_icmp .ge 58, 3) := by decide +kernel
theorem dX11_person_34 : decode cX11_person 34 = .ok (.iload 6, 2) := by decide +kernel
theorem dX11_person_36 : decode cX11_person 36 = .ok (.bipush 31, 2) := by decide +kernel
theorem dX11_person_38 : decode cX11_person 38 = .ok (.if_icmp .gt 51, 3) := by decide +kernel
theorem dX11_person_41 : decode cX11_person 41 = .ok (.iload 7, 2) := by decide +kernel
theorem dX11_person_43 : decode cX11_person 43 = .ok (.iconst 1, 1) := by decide +kernel
theorem dX11_person_44 : decode cX11_person 44 = .ok (.if_icmp .lt 45, 3) := by decide +kernel
theorem dX11_person_47 : decode cX11_person 47 = .ok (.iload_n 2, 1) := by decide +kernel
theorem dX11_person_48 : decode cX11_person 48 = .ok (.sipush (-30000), 3) := by decide +kernel
theorem dX11_person_51 : decode cX11_person 51 = .ok (.aload_n 0, 1) := by decide +kernel
theorem dX11_person_52 : decode cX11_person 52 = .ok (.getfield 114, 3) := by decide +kernel
theorem dX11_person_55 : decode cX11_person 55 = .ok (.invokestatic 98, 3) := by decide +kernel
theorem dX11_person_58 : decode cX11_person 58 = .ok (.ifCond .eq 31, 3) := by decide +kernel
theorem dX11_person_61 : decode cX11_person 61 = .ok (.iload_n 3, 1) := by decide +kernel
theorem dX11_person_62 : decode cX11_person 62 = .ok (.iconst (-1), 1) := by decide +kernel
theorem dX11_person_63 : decode cX11_person 63 = .ok (.if_icmp .eq 11, 3) := by decide +kernel
theorem dX11_person_66 : decode cX11_person 66 = .ok (.aload_n 0, 1) := by decide +kernel
theorem dX11_person_67 : decode cX11_person 67 = .ok (.iload_n 3, 1) := by decide +kernel
theorem dX11_person_68 : decode cX11_person 68 = .ok (.invokevirtual 117, 3) := by decide +kernel
theorem dX11_person_71 : decode cX11_person 71 = .ok (.ifCond .eq 18, 3) := by decide +kernel
theorem dX11_person_74 : decode cX11_person 74 = .ok (.iload 4, 2) := by decide +kernel
theorem dX11_person_76 : decode cX11_person 76 = .ok (.iconst (-1), 1) := by decide +kernel
theorem dX11_person_77 : decode cX11_person 77 = .ok (.if_icmp .eq 14, 3) := by decide +kernel
theorem dX11_person_80 : decode cX11_person 80 = .ok (.aload_n 0, 1) := by decide +kernel
theorem dX11_person_81 : decode cX11_person 81 = .ok (.iload 4, 2) := by decide +kernel
theorem dX11_person_83 : decode cX11_person 83 = .ok (.invokevirtual 117, 3) := by decide +kernel
theorem dX11_person_86 : decode cX11_person 86 = .ok (.ifCond .ne 5, 3) := by decide +kernel
theorem dX11_person_89 : decode cX11_person 89 = .ok (.iconst (-1), 1) := by decide +kernel
theorem dX11_person_90 : decode cX11_person 90 = .ok (.ireturn, 1) := by decide +kernel
theorem dX11_person_91 : decode cX11_person 91 = .ok (.iload_n 3, 1) := by decide +kernel
theorem dX11_person_92 : decode cX11_person 92 = .ok (.iconst (-1), 1) := by decide +kernel
theorem dX11_person_93 : decode cX11_person 93 = .ok (.if_icmp .eq 9, 3) := by decide +kernel
theorem dX11_person_96 : decode cX11_person 96 = .ok (.iload_n 3, 1) := by decide +kernel
theorem dX11_person_97 : decode cX11_person 97 = .ok (.iload 4, 2) := by decide +kernel
theorem dX11_person_99 : decode cX11_person 99 = .ok (.if_icmp .eq 12, 3) := by decide +kernel
theorem dX11_person_102 : decode cX11_person 102 = .ok (.aload_n 0, 1) := by decide +kernel
theorem dX11_person_103 : decode cX11_person 103 = .ok (.getfield 94, 3) := by decide +kernel
theorem dX11_person_106 : decode cX11_person 106 = .ok (.bipush 40, 2) := by decide +kernel
theorem dX11_person_108 : decode cX11_person 108 = .ok (.if_icmp .ne 5, 3) := by decide +kernel
theorem dX11_person_111 : decode cX11_person 111 = .ok (.iconst (-1), 1) := by decide +kernel
theorem dX11_person_112 : decode cX11_person 112 = .ok (.ireturn, 1) := by decide +kernel
theorem dX11_person_113 : decode cX11_person 113 = .ok (.aload_n 0, 1) := by decide +kernel
theorem dX11_person_114 : decode cX11_person 114 = .ok (.getfield 18, 3) := by decide +kernel
theorem dX11_person_117 : decode cX11_person 117 = .ok (.aload_n 0, 1) := by decide +kernel
theorem dX11_person_118 : decode cX11_person 118 = .ok (.getfield 94, 3) := by decide +kernel
theorem dX11_person_121 : decode cX11_person 121 = .ok (.iload 5, 2) := by decide +kernel
theorem dX11_person_123 : decode cX11_person 123 = .ok (.iastore, 1) := by decide +kernel
theorem dX11_person_124 : decode cX11_person 124 = .ok (.aload_n 0, 1) := by decide +kernel
theorem dX11_person_125 : decode cX11_person 125 = .ok (.getfield 30, 3) := by decide +kernel
theorem dX11_person_128 : decode cX11_person 128 = .ok (.aload_n 0, 1) := by decide +kernel
theorem dX11_person_129 : decode cX11_person 129 = .ok (.getfield 94, 3) := by decide +kernel
theorem dX11_person_132 : decode cX11_person 132 = .ok (.iload 6, 2) := by decide +kernel
theorem dX11_person_134 : decode cX11_person 134 = .ok (.iastore, 1) := by decide +kernel
theorem dX11_person_135 : decode cX11_person 135 = .ok (.aload_n 0, 1) := by decide +kernel
theorem dX11_person_136 : decode cX11_person 136 = .ok (.getfield 33, 3) := by decide +kernel
theorem dX11_person_139 : decode cX11_person 139 = .ok (.aload_n 0, 1) := by decide +kernel
theorem dX11_person_140 : decode cX11_person 140 = .ok (.getfield 94, 3) := by decide +kernel
theorem dX11_person_143 : decode cX11_person 143 = .ok (.iload 7, 2) := by decide +kernel
theorem dX11_person_145 : decode cX11_person 145 = .ok (.iastore, 1) := by decide +kernel
theorem dX11_person_146 : decode cX11_person 146 = .ok (.aload_n 0, 1) := by decide +kernel
theorem dX11_person_147 : decode cX11_person 147 = .ok (.getfield 21, 3) := by decide +kernel
theorem dX11_person_150 : decode cX11_person 150 = .ok (.aload_n 0, 1) := by decide +kernel
theorem dX11_person_151 : decode cX11_person 151 = .ok (.getfield 94, 3) := by decide +kernel
theorem dX11_person_154 : decode cX11_person 154 = .ok (.iload_n 2, 1) := by decide +kernel
theorem dX11_person_155 : decode cX11_person 155 = .ok (.iastore, 1) := by decide +kernel
theorem dX11_person_156 : decode cX11_person 156 = .ok (.aload_n 0, 1) := by decide +kernel
theorem dX11_person_157 : decode cX11_person 157 = .ok (.getfield 24, 3) := by decide +kernel
theorem dX11_person_160 : decode cX11_person 160 = .ok (.aload_n 0, 1) := by decide +kernel
theorem dX11_person_161 : decode cX11_person 161 = .ok (.getfield 94, 3) := by decide +kernel
theorem dX11_person_164 : decode cX11_person 164 = .ok (.iload_n 3, 1) := by decide +kernel
theorem dX11_person_165 : decode cX11_person 165 = .ok (.iastore, 1) := by decide +kernel
theorem dX11_person_166 : decode cX11_person 166 = .ok (.aload_n 0, 1) := by decide +kernel
theorem dX11_person_167 : decode cX11_person 167 = .ok (.getfield 27, 3) := by decide +kernel
theorem dX11_person_170 : decode cX11_person 170 = .ok (.aload_n 0, 1) := by decide +kernel
theorem dX11_person_171 : decode cX11_person 171 = .ok (.getfield 94, 3) := by decide +kernel
theorem dX11_person_174 : decode cX11_person 174 = .ok (.iload 4, 2) := by decide +kernel
theorem dX11_person_176 : decode cX11_person 176 = .ok (.iastore, 1) := by decide +kernel
theorem dX11_person_177 : decode cX11_person 177 = .ok (.aload_n 0, 1) := by decide +kernel
theorem dX11_person_178 : decode cX11_person 178 = .ok (.getfield 36, 3) := by decide +kernel
theorem dX11_person_181 : decode cX11_person 181 = .ok (.aload_n 0, 1) := by decide +kernel
theorem dX11_person_182 : decode cX11_person 182 = .ok (.getfield 94, 3) := by decide +kernel
theorem dX11_person_185 : decode cX11_person 185 = .ok (.iconst (-1), 1) := by decide +kernel
theorem dX11_person_186 : decode cX11_person 186 = .ok (.iastore, 1) := by decide +kernel
theorem dX11_person_187 : decode cX11_person 187 = .ok (.aload_n 0, 1) := by decide +kernel
theorem dX11_person_188 : decode cX11_person 188 = .ok (.dup, 1) := by decide +kernel
theorem dX11_person_189 : decode cX11_person 189 = .ok (.getfield 94, 3) := by decide +kernel
theorem dX11_person_192 : decode cX11_person 192 = .ok (.iconst 1, 1) := by decide +kernel
theorem dX11_person_193 : decode cX11_person 193 = .ok (.iadd, 1) := by decide +kernel
theorem dX11_person_194 : decode cX11_person 194 = .ok (.putfield 94, 3) := by decide +kernel
theorem dX11_person_197 : decode cX11_person 197 = .ok (.aload_n 0, 1) := by decide +kernel
theorem dX11_person_198 : decode cX11_person 198 = .ok (.getfield 94, 3) := by decide +kernel
theorem dX11_person_201 : decode cX11_person 201 = .ok (.iconst 1, 1) := by decide +kernel
theorem dX11_person_202 : decode cX11_person 202 = .ok (.isub, 1) := by decide +kernel
theorem dX11_person_203 : decode cX11_person 203 = .ok (.ireturn, 1) := by decide +kernel
theorem dX11_paper_0 : decode cX11_paper 0 = .ok (.aload_n 0, 1) := by decide +kernel
theorem dX11_paper_1 : decode cX11_paper 1 = .ok (.iload_n 1, 1) := by decide +kernel
theorem dX11_paper_2 : decode cX11_paper 2 = .ok (.invokevirtual 117, 3) := by decide +kernel
theorem dX11_paper_5 : decode cX11_paper 5 = .ok (.ifCond .eq 34, 3) := by decide +kernel
theorem dX11_paper_8 : decode cX11_paper 8 = .ok (.iload_n 2, 1) := by decide +kernel
theorem dX11_paper_9 : decode cX11_paper 9 = .ok (.iconst 0, 1) := by decide +kernel
theorem dX11_paper_10 : decode cX11_paper 10 = .ok (.iconst 2, 1) := by decide +kernel
theorem dX11_paper_11 : decode cX11_paper 11 = .ok (.invokestatic 98, 3) := by decide +kernel
theorem dX11_paper_14 : decode cX11_paper 14 = .ok (.ifCond .eq 25, 3) := by decide +kernel
theorem dX11_paper_17 : decode cX11_paper 17 = .ok (.iload_n 3, 1) := by decide +kernel
theorem dX11_paper_18 : decode cX11_paper 18 = .ok (.iconst 0, 1) := by decide +kernel
theorem dX11_paper_19 : decode cX11_paper 19 = .ok (.aload_n 0, 1) := by decide +kernel
theorem dX11_paper_20 : decode cX11_paper 20 = .ok (.getfield 114, 3) := by decide +kernel
theorem dX11_paper_23 : decode cX11_paper 23 = .ok (.invokestatic 98, 3) := by decide +kernel
theorem dX11_paper_26 : decode cX11_paper 26 = .ok (.ifCond .eq 13, 3) := by decide +kernel
theorem dX11_paper_29 : decode cX11_paper 29 = .ok (.aload_n 0, 1) := by decide +kernel
theorem dX11_paper_30 : decode cX11_paper 30 = .ok (.getfield 121, 3) := by decide +kernel
theorem dX11_paper_33 : decode cX11_paper 33 = .ok (.sipush 200, 3) := by decide +kernel
theorem dX11_paper_36 : decode cX11_paper 36 = .ok (.if_icmp .ne 5, 3) := by decide +kernel
theorem dX11_paper_39 : decode cX11_paper 39 = .ok (.iconst 0, 1) := by decide +kernel
theorem dX11_paper_40 : decode cX11_paper 40 = .ok (.ireturn, 1) := by decide +kernel
theorem dX11_paper_41 : decode cX11_paper 41 = .ok (.aload_n 0, 1) := by decide +kernel
theorem dX11_paper_42 : decode cX11_paper 42 = .ok (.getfield 39, 3) := by decide +kernel
theorem dX11_paper_45 : decode cX11_paper 45 = .ok (.aload_n 0, 1) := by decide +kernel
theorem dX11_paper_46 : decode cX11_paper 46 = .ok (.getfield 121, 3) := by decide +kernel
theorem dX11_paper_49 : decode cX11_paper 49 = .ok (.iload_n 1, 1) := by decide +kernel
theorem dX11_paper_50 : decode cX11_paper 50 = .ok (.iastore, 1) := by decide +kernel
theorem dX11_paper_51 : decode cX11_paper 51 = .ok (.aload_n 0, 1) := by decide +kernel
theorem dX11_paper_52 : decode cX11_paper 52 = .ok (.getfield 42, 3) := by decide +kernel
theorem dX11_paper_55 : decode cX11_paper 55 = .ok (.aload_n 0, 1) := by decide +kernel
theorem dX11_paper_56 : decode cX11_paper 56 = .ok (.getfield 121, 3) := by decide +kernel
theorem dX11_paper_59 : decode cX11_paper 59 = .ok (.iload_n 2, 1) := by decide +kernel
theorem dX11_paper_60 : decode cX11_paper 60 = .ok (.iastore, 1) := by decide +kernel
theorem dX11_paper_61 : decode cX11_paper 61 = .ok (.aload_n 0, 1) := by decide +kernel
theorem dX11_paper_62 : decode cX11_paper 62 = .ok (.getfield 45, 3) := by decide +kernel
theorem dX11_paper_65 : decode cX11_paper 65 = .ok (.aload_n 0, 1) := by decide +kernel
theorem dX11_paper_66 : decode cX11_paper 66 = .ok (.getfield 121, 3) := by decide +kernel
theorem dX11_paper_69 : decode cX11_paper 69 = .ok (.iload_n 3, 1) := by decide +kernel
theorem dX11_paper_70 : decode cX11_paper 70 = .ok (.iastore, 1) := by decide +kernel
theorem dX11_paper_71 : decode cX11_paper 71 = .ok (.aload_n 0, 1) := by decide +kernel
theorem dX11_paper_72 : decode cX11_paper 72 = .ok (.dup, 1) := by decide +kernel
theorem dX11_paper_73 : decode cX11_paper 73 = .ok (.getfield 121, 3) := by decide +kernel
theorem dX11_paper_76 : decode cX11_paper 76 = .ok (.iconst 1, 1) := by decide +kernel
theorem dX11_paper_77 : decode cX11_paper 77 = .ok (.iadd, 1) := by decide +kernel
theorem dX11_paper_78 : decode cX11_paper 78 = .ok (.putfield 121, 3) := by decide +kernel
theorem dX11_paper_81 : decode cX11_paper 81 = .ok (.iconst 1, 1) := by decide +kernel
theorem dX11_paper_82 : decode cX11_paper 82 = .ok (.ireturn, 1) := by decide +kernel
theorem dX11_hasPaper_0 : decode cX11_hasPaper 0 = .ok (.iconst 0, 1) := by decide +kernel
theorem dX11_hasPaper_1 : decode cX11_hasPaper 1 = .ok (.istore 4, 2) := by decide +kernel
theorem dX11_hasPaper_3 : decode cX11_hasPaper 3 = .ok (.iload 4, 2) := by decide +kernel
theorem dX11_hasPaper_5 : decode cX11_hasPaper 5 = .ok (.aload_n 0, 1) := by decide +kernel
theorem dX11_hasPaper_6 : decode cX11_hasPaper 6 = .ok (.getfield 121, 3) := by decide +kernel
theorem dX11_hasPaper_9 : decode cX11_hasPaper 9 = .ok (.if_icmp .ge 63, 3) := by decide +kernel
theorem dX11_hasPaper_12 : decode cX11_hasPaper 12 = .ok (.aload_n 0, 1) := by decide +kernel
theorem dX11_hasPaper_13 : decode cX11_hasPaper 13 = .ok (.getfield 39, 3) := by decide +kernel
theorem dX11_hasPaper_16 : decode cX11_hasPaper 16 = .ok (.iload 4, 2) := by decide +kernel
theorem dX11_hasPaper_18 : decode cX11_hasPaper 18 = .ok (.iaload, 1) := by decide +kernel
theorem dX11_hasPaper_19 : decode cX11_hasPaper 19 = .ok (.iload_n 1, 1) := by decide +kernel
theorem dX11_hasPaper_20 : decode cX11_hasPaper 20 = .ok (.if_icmp .ne 46, 3) := by decide +kernel
theorem dX11_hasPaper_23 : decode cX11_hasPaper 23 = .ok (.aload_n 0, 1) := by decide +kernel
theorem dX11_hasPaper_24 : decode cX11_hasPaper 24 = .ok (.getfield 42, 3) := by decide +kernel
theorem dX11_hasPaper_27 : decode cX11_hasPaper 27 = .ok (.iload 4, 2) := by decide +kernel
theorem dX11_hasPaper_29 : decode cX11_hasPaper 29 = .ok (.iaload, 1) := by decide +kernel
theorem dX11_hasPaper_30 : decode cX11_hasPaper 30 = .ok (.iload_n 2, 1) := by decide +kernel
theorem dX11_hasPaper_31 : decode cX11_hasPaper 31 = .ok (.if_icmp .ne 35, 3) := by decide +kernel
theorem dX11_hasPaper_34 : decode cX11_hasPaper 34 = .ok (.aload_n 0, 1) := by decide +kernel
theorem dX11_hasPaper_35 : decode cX11_hasPaper 35 = .ok (.getfield 45, 3) := by decide +kernel
theorem dX11_hasPaper_38 : decode cX11_hasPaper 38 = .ok (.iload 4, 2) := by decide +kernel
theorem dX11_hasPaper_40 : decode cX11_hasPaper 40 = .ok (.iaload, 1) := by decide +kernel
theorem dX11_hasPaper_41 : decode cX11_hasPaper 41 = .ok (.iload_n 3, 1) := by decide +kernel
theorem dX11_hasPaper_42 : decode cX11_hasPaper 42 = .ok (.if_icmp .gt 24, 3) := by decide +kernel
theorem dX11_hasPaper_45 : decode cX11_hasPaper 45 = .ok (.aload_n 0, 1) := by decide +kernel
theorem dX11_hasPaper_46 : decode cX11_hasPaper 46 = .ok (.iload_n 1, 1) := by decide +kernel
theorem dX11_hasPaper_47 : decode cX11_hasPaper 47 = .ok (.iload_n 3, 1) := by decide +kernel
theorem dX11_hasPaper_48 : decode cX11_hasPaper 48 = .ok (.iconst 5, 1) := by decide +kernel
theorem dX11_hasPaper_49 : decode cX11_hasPaper 49 = .ok (.invokevirtual 124, 3) := by decide +kernel
theorem dX11_hasPaper_52 : decode cX11_hasPaper 52 = .ok (.iload_n 3, 1) := by decide +kernel
theorem dX11_hasPaper_53 : decode cX11_hasPaper 53 = .ok (.aload_n 0, 1) := by decide +kernel
theorem dX11_hasPaper_54 : decode cX11_hasPaper 54 = .ok (.getfield 45, 3) := by decide +kernel
theorem dX11_hasPaper_57 : decode cX11_hasPaper 57 = .ok (.iload 4, 2) := by decide +kernel
theorem dX11_hasPaper_59 : decode cX11_hasPaper 59 = .ok (.iaload, 1) := by decide +kernel
theorem dX11_hasPaper_60 : decode cX11_hasPaper 60 = .ok (.isub, 1) := by decide +kernel
theorem dX11_hasPaper_61 : decode cX11_hasPaper 61 = .ok (.if_icmp .le 5, 3) := by decide +kernel
theorem dX11_hasPaper_64 : decode cX11_hasPaper 64 = .ok (.iconst 1, 1) := by decide +kernel
theorem dX11_hasPaper_65 : decode cX11_hasPaper 65 = .ok (.ireturn, 1) := by decide +kernel
theorem dX11_hasPaper_66 : decode cX11_hasPaper 66 = .ok (.iinc 4 1, 3) := by decide +kernel
theorem dX11_hasPaper_69 : decode cX11_hasPaper 69 = .ok (.goto (-66), 3) := by decide +kernel
theorem dX11_hasPaper_72 : decode cX11_hasPaper 72 = .ok (.iconst 0, 1) := by decide +kernel
theorem dX11_hasPaper_73 : decode cX11_hasPaper 73 = .ok (.ireturn, 1) := by decide +kernel
theorem dX11_isFree_0 : decode cX11_isFree 0 = .ok (.iload_n 1, 1) := by decide +kernel
theorem dX11_isFree_1 : decode cX11_isFree 1 = .ok (.bipush 7, 2) := by decide +kernel
theorem dX11_isFree_3 : decode cX11_isFree 3 = .ok (.irem, 1) := by decide +kernel
theorem dX11_isFree_4 : decode cX11_isFree 4 = .ok (.bipush 6, 2) := by decide +kernel
theorem dX11_isFree_6 : decode cX11_isFree 6 = .ok (.if_icmp .eq 16, 3) := by decide +kernel
theorem dX11_isFree_9 : decode cX11_isFree 9 = .ok (.aload_n 0, 1) := by decide +kernel
theorem dX11_isFree_10 : decode cX11_isFree 10 = .ok (.getfield 48, 3) := by decide +kernel
theorem dX11_isFree_13 : decode cX11_isFree 13 = .ok (.iload_n 1, 1) := by decide +kernel
theorem dX11_isFree_14 : decode cX11_isFree 14 = .ok (.baload, 1) := by decide +kernel
theorem dX11_isFree_15 : decode cX11_isFree 15 = .ok (.ifCond .ne 7, 3) := by decide +kernel
theorem dX11_isFree_18 : decode cX11_isFree 18 = .ok (.iconst 1, 1) := by decide +kernel
theorem dX11_isFree_19 : decode cX11_isFree 19 = .ok (.goto 4, 3) := by decide +kernel
theorem dX11_isFree_22 : decode cX11_isFree 22 = .ok (.iconst 0, 1) := by decide +kernel
theorem dX11_isFree_23 : decode cX11_isFree 23 = .ok (.ireturn, 1) := by decide +kernel
theorem dX11_feast_0 : decode cX11_feast 0 = .ok (.iload_n 1, 1) := by decide +kernel
theorem dX11_feast_1 : decode cX11_feast 1 = .ok (.iconst 0, 1) := by decide +kernel
theorem dX11_feast_2 : decode cX11_feast 2 = .ok (.sipush 20000, 3) := by decide +kernel
theorem dX11_feast_5 : decode cX11_feast 5 = .ok (.invokestatic 98, 3) := by decide +kernel
theorem dX11_feast_8 : decode cX11_feast 8 = .ok (.ifCond .eq 11, 3) := by decide +kernel
theorem dX11_feast_11 : decode cX11_feast 11 = .ok (.aload_n 0, 1) := by decide +kernel
theorem dX11_feast_12 : decode cX11_feast 12 = .ok (.iload_n 1, 1) := by decide +kernel
theorem dX11_feast_13 : decode cX11_feast 13 = .ok (.invokevirtual 128, 3) := by decide +kernel
theorem dX11_feast_16 : decode cX11_feast 16 = .ok (.ifCond .ne 5, 3) := by decide +kernel
theorem dX11_feast_19 : decode cX11_feast 19 = .ok (.iconst 0, 1) := by decide +kernel
theorem dX11_feast_20 : decode cX11_feast 20 = .ok (.ireturn, 1) := by decide +kernel
theorem dX11_feast_21 : decode cX11_feast 21 = .ok (.aload_n 0, 1) := by decide +kernel
theorem dX11_feast_22 : decode cX11_feast 22 = .ok (.getfield 48, 3) := by decide +kernel
theorem dX11_feast_25 : decode cX11_feast 25 = .ok (.iload_n 1, 1) := by decide +kernel
theorem dX11_feast_26 : decode cX11_feast 26 = .ok (.iconst 1, 1) := by decide +kernel
theorem dX11_feast_27 : decode cX11_feast 27 = .ok (.bastore, 1) := by decide +kernel
theorem dX11_feast_28 : decode cX11_feast 28 = .ok (.iconst 1, 1) := by decide +kernel
theorem dX11_feast_29 : decode cX11_feast 29 = .ok (.ireturn, 1) := by decide +kernel
theorem dX11_go_0 : decode cX11_go 0 = .ok (.iload_n 1, 1) := by decide +kernel
theorem dX11_go_1 : decode cX11_go 1 = .ok (.iconst 0, 1) := by decide +kernel
theorem dX11_go_2 : decode cX11_go 2 = .ok (.sipush 400, 3) := by decide +kernel
theorem dX11_go_5 : decode cX11_go 5 = .ok (.invokestatic 98, 3) := by decide +kernel
theorem dX11_go_8 : decode cX11_go 8 = .ok (.ifCond .ne 5, 3) := by decide +kernel
theorem dX11_go_11 : decode cX11_go 11 = .ok (.iconst (-1), 1) := by decide +kernel
theorem dX11_go_12 : decode cX11_go 12 = .ok (.ireturn, 1) := by decide +kernel
theorem dX11_go_13 : decode cX11_go 13 = .ok (.aload_n 0, 1) := by decide +kernel
theorem dX11_go_14 : decode cX11_go 14 = .ok (.sipush 20000, 3) := by decide +kernel
theorem dX11_go_17 : decode cX11_go 17 = .ok (.aload_n 0, 1) := by decide +kernel
theorem dX11_go_18 : decode cX11_go 18 = .ok (.getfield 114, 3) := by decide +kernel
theorem dX11_go_21 : decode cX11_go 21 = .ok (.iload_n 1, 1) := by decide +kernel
theorem dX11_go_22 : decode cX11_go 22 = .ok (.iadd, 1) := by decide +kernel
theorem dX11_go_23 : decode cX11_go 23 = .ok (.invokestatic 131, 3) := by decide +kernel
theorem dX11_go_26 : decode cX11_go 26 = .ok (.putfield 114, 3) := by decide +kernel
theorem dX11_go_29 : decode cX11_go 29 = .ok (.aload_n 0, 1) := by decide +kernel
theorem dX11_go_30 : decode cX11_go 30 = .ok (.getfield 114, 3) := by decide +kernel
theorem dX11_go_33 : decode cX11_go 33 = .ok (.ireturn, 1) := by decide +kernel
theorem dX11_isParent_0 : decode cX11_isParent 0 = .ok (.iload_n 1, 1) := by decide +kernel
theorem dX11_isParent_1 : decode cX11_isParent 1 = .ok (.iconst (-1), 1) := by decide +kernel
theorem dX11_isParent_2 : decode cX11_isParent 2 = .ok (.if_icmp .eq 27, 3) := by decide +kernel
theorem dX11_isParent_5 : decode cX11_isParent 5 = .ok (.aload_n 0, 1) := by decide +kernel
theorem dX11_isParent_6 : decode cX11_isParent 6 = .ok (.getfield 24, 3) := by decide +kernel
theorem dX11_isParent_9 : decode cX11_isParent 9 = .ok (.iload_n 2, 1) := by decide +kernel
theorem dX11_isParent_10 : decode cX11_isParent 10 = .ok (.iaload, 1) := by decide +kernel
theorem dX11_isParent_11 : decode cX11_isParent 11 = .ok (.iload_n 1, 1) := by decide +kernel
theorem dX11_isParent_12 : decode cX11_isParent 12 = .ok (.if_icmp .eq 13, 3) := by decide +kernel
theorem dX11_isParent_15 : decode cX11_isParent 15 = .ok (.aload_n 0, 1) := by decide +kernel
theorem dX11_isParent_16 : decode cX11_isParent 16 = .ok (.getfield 27, 3) := by decide +kernel
theorem dX11_isParent_19 : decode cX11_isParent 19 = .ok (.iload_n 2, 1) := by decide +kernel
theorem dX11_isParent_20 : decode cX11_isParent 20 = .ok (.iaload, 1) := by decide +kernel
theorem dX11_isParent_21 : decode cX11_isParent 21 = .ok (.iload_n 1, 1) := by decide +kernel
theorem dX11_isParent_22 : decode cX11_isParent 22 = .ok (.if_icmp .ne 7, 3) := by decide +kernel
theorem dX11_isParent_25 : decode cX11_isParent 25 = .ok (.iconst 1, 1) := by decide +kernel
theorem dX11_isParent_26 : decode cX11_isParent 26 = .ok (.goto 4, 3) := by decide +kernel
theorem dX11_isParent_29 : decode cX11_isParent 29 = .ok (.iconst 0, 1) := by decide +kernel
theorem dX11_isParent_30 : decode cX11_isParent 30 = .ok (.ireturn, 1) := by decide +kernel
theorem dX11_share_0 : decode cX11_share 0 = .ok (.iload_n 1, 1) := by decide +kernel
theorem dX11_share_1 : decode cX11_share 1 = .ok (.iload_n 2, 1) := by decide +kernel
theorem dX11_share_2 : decode cX11_share 2 = .ok (.if_icmp .eq 57, 3) := by decide +kernel
theorem dX11_share_5 : decode cX11_share 5 = .ok (.aload_n 0, 1) := by decide +kernel
theorem dX11_share_6 : decode cX11_share 6 = .ok (.getfield 24, 3) := by decide +kernel
theorem dX11_share_9 : decode cX11_share 9 = .ok (.iload_n 1, 1) := by decide +kernel
theorem dX11_share_10 : decode cX11_share 10 = .ok (.iaload, 1) := by decide +kernel
theorem dX11_share_11 : decode cX11_share 11 = .ok (.iconst (-1), 1) := by decide +kernel
theorem dX11_share_12 : decode cX11_share 12 = .ok (.if_icmp .eq 18, 3) := by decide +kernel
theorem dX11_share_15 : decode cX11_share 15 = .ok (.aload_n 0, 1) := by decide +kernel
theorem dX11_share_16 : decode cX11_share 16 = .ok (.getfield 24, 3) := by decide +kernel
theorem dX11_share_19 : decode cX11_share 19 = .ok (.iload_n 1, 1) := by decide +kernel
theorem dX11_share_20 : decode cX11_share 20 = .ok (.iaload, 1) := by decide +kernel
theorem dX11_share_21 : decode cX11_share 21 = .ok (.aload_n 0, 1) := by decide +kernel
theorem dX11_share_22 : decode cX11_share 22 = .ok (.getfield 24, 3) := by decide +kernel
theorem dX11_share_25 : decode cX11_share 25 = .ok (.iload_n 2, 1) := by decide +kernel
theorem dX11_share_26 : decode cX11_share 26 = .ok (.iaload, 1) := by decide +kernel
theorem dX11_share_27 : decode cX11_share 27 = .ok (.if_icmp .eq 28, 3) := by decide +kernel
theorem dX11_share_30 : decode cX11_share 30 = .ok (.aload_n 0, 1) := by decide +kernel
theorem dX11_share_31 : decode cX11_share 31 = .ok (.getfield 27, 3) := by decide +kernel
theorem dX11_share_34 : decode cX11_share 34 = .ok (.iload_n 1, 1) := by decide +kernel
theorem dX11_share_35 : decode cX11_share 35 = .ok (.iaload, 1) := by decide +kernel
theorem dX11_share_36 : decode cX11_share 36 = .ok (.iconst (-1), 1) := by decide +kernel
theorem dX11_share_37 : decode cX11_share 37 = .ok (.if_icmp .eq 22, 3) := by decide +kernel
theorem dX11_share_40 : decode cX11_share 40 = .ok (.aload_n 0, 1) := by decide +kernel
theorem dX11_share_41 : decode cX11_share 41 = .ok (.getfield 27, 3) := by decide +kernel
theorem dX11_share_44 : decode cX11_share 44 = .ok (.iload_n 1, 1) := by decide +kernel
theorem dX11_share_45 : decode cX11_share 45 = .ok (.iaload, 1) := by decide +kernel
theorem dX11_share_46 : decode cX11_share 46 = .ok (.aload_n 0, 1) := by decide +kernel
theorem dX11_share_47 : decode cX11_share 47 = .ok (.getfield 27, 3) := by decide +kernel
theorem dX11_share_50 : decode cX11_share 50 = .ok (.iload_n 2, 1) := by decide +kernel
theorem dX11_share_51 : decode cX11_share 51 = .ok (.iaload, 1) := by decide +kernel
theorem dX11_share_52 : decode cX11_share 52 = .ok (.if_icmp .ne 7, 3) := by decide +kernel
theorem dX11_share_55 : decode cX11_share 55 = .ok (.iconst 1, 1) := by decide +kernel
theorem dX11_share_56 : decode cX11_share 56 = .ok (.goto 4, 3) := by decide +kernel
theorem dX11_share_59 : decode cX11_share 59 = .ok (.iconst 0, 1) := by decide +kernel
theorem dX11_share_60 : decode cX11_share 60 = .ok (.ireturn, 1) := by decide +kernel
theorem dX11_parent_0 : decode cX11_parent 0 = .ok (.iload_n 2, 1) := by decide +kernel
theorem dX11_parent_1 : decode cX11_parent 1 = .ok (.ifCond .ne 12, 3) := by decide +kernel
theorem dX11_parent_4 : decode cX11_parent 4 = .ok (.aload_n 0, 1) := by decide +kernel
theorem dX11_parent_5 : decode cX11_parent 5 = .ok (.getfield 24, 3) := by decide +kernel
theorem dX11_parent_8 : decode cX11_parent 8 = .ok (.iload_n 1, 1) := by decide +kernel
theorem dX11_parent_9 : decode cX11_parent 9 = .ok (.iaload, 1) := by decide +kernel
theorem dX11_parent_10 : decode cX11_parent 10 = .ok (.goto 9, 3) := by decide +kernel
theorem dX11_parent_13 : decode cX11_parent 13 = .ok (.aload_n 0, 1) := by decide +kernel
theorem dX11_parent_14 : decode cX11_parent 14 = .ok (.getfield 27, 3) := by decide +kernel
theorem dX11_parent_17 : decode cX11_parent 17 = .ok (.iload_n 1, 1) := by decide +kernel
theorem dX11_parent_18 : decode cX11_parent 18 = .ok (.iaload, 1) := by decide +kernel
theorem dX11_parent_19 : decode cX11_parent 19 = .ok (.ireturn, 1) := by decide +kernel
theorem dX11_kinOf_0 : decode cX11_kinOf 0 = .ok (.aload_n 0, 1) := by decide +kernel
theorem dX11_kinOf_1 : decode cX11_kinOf 1 = .ok (.iload_n 1, 1) := by decide +kernel
theorem dX11_kinOf_2 : decode cX11_kinOf 2 = .ok (.iload_n 2, 1) := by decide +kernel
theorem dX11_kinOf_3 : decode cX11_kinOf 3 = .ok (.invokevirtual 137, 3) := by decide +kernel
theorem dX11_kinOf_6 : decode cX11_kinOf 6 = .ok (.ifCond .ne 21, 3) := by decide +kernel
theorem dX11_kinOf_9 : decode cX11_kinOf 9 = .ok (.aload_n 0, 1) := by decide +kernel
theorem dX11_kinOf_10 : decode cX11_kinOf 10 = .ok (.iload_n 2, 1) := by decide +kernel
theorem dX11_kinOf_11 : decode cX11_kinOf 11 = .ok (.iload_n 1, 1) := by decide +kernel
theorem dX11_kinOf_12 : decode cX11_kinOf 12 = .ok (.invokevirtual 137, 3) := by decide +kernel
theorem dX11_kinOf_15 : decode cX11_kinOf 15 = .ok (.ifCond .ne 12, 3) := by decide +kernel
theorem dX11_kinOf_18 : decode cX11_kinOf 18 = .ok (.aload_n 0, 1) := by decide +kernel
theorem dX11_kinOf_19 : decode cX11_kinOf 19 = .ok (.iload_n 1, 1) := by decide +kernel
theorem dX11_kinOf_20 : decode cX11_kinOf 20 = .ok (.iload_n 2, 1) := by decide +kernel
theorem dX11_kinOf_21 : decode cX11_kinOf 21 = .ok (.invokevirtual 141, 3) := by decide +kernel
theorem dX11_kinOf_24 : decode cX11_kinOf 24 = .ok (.ifCond .eq 5, 3) := by decide +kernel
theorem dX11_kinOf_27 : decode cX11_kinOf 27 = .ok (.iconst 1, 1) := by decide +kernel
theorem dX11_kinOf_28 : decode cX11_kinOf 28 = .ok (.ireturn, 1) := by decide +kernel
theorem dX11_kinOf_29 : decode cX11_kinOf 29 = .ok (.iconst 0, 1) := by decide +kernel
theorem dX11_kinOf_30 : decode cX11_kinOf 30 = .ok (.istore_n 3, 1) := by decide +kernel
theorem dX11_kinOf_31 : decode cX11_kinOf 31 = .ok (.iconst 0, 1) := by decide +kernel
theorem dX11_kinOf_32 : decode cX11_kinOf 32 = .ok (.istore 4, 2) := by decide +kernel
theorem dX11_kinOf_34 : decode cX11_kinOf 34 = .ok (.iload 4, 2) := by decide +kernel
theorem dX11_kinOf_36 : decode cX11_kinOf 36 = .ok (.iconst 2, 1) := by decide +kernel
theorem dX11_kinOf_37 : decode cX11_kinOf 37 = .ok (.if_icmp .ge 133, 3) := by decide +kernel
theorem dX11_kinOf_40 : decode cX11_kinOf 40 = .ok (.aload_n 0, 1) := by decide +kernel
theorem dX11_kinOf_41 : decode cX11_kinOf 41 = .ok (.iload_n 1, 1) := by decide +kernel
theorem dX11_kinOf_42 : decode cX11_kinOf 42 = .ok (.iload 4, 2) := by decide +kernel
theorem dX11_kinOf_44 : decode cX11_kinOf 44 = .ok (.invokevirtual 144, 3) := by decide +kernel
theorem dX11_kinOf_47 : decode cX11_kinOf 47 = .ok (.istore 5, 2) := by decide +kernel
theorem dX11_kinOf_49 : decode cX11_kinOf 49 = .ok (.aload_n 0, 1) := by decide +kernel
theorem dX11_kinOf_50 : decode cX11_kinOf 50 = .ok (.iload_n 2, 1) := by decide +kernel
theorem dX11_kinOf_51 : decode cX11_kinOf 51 = .ok (.iload 4, 2) := by decide +kernel
theorem dX11_kinOf_53 : decode cX11_kinOf 53 = .ok (.invokevirtual 144, 3) := by decide +kernel
theorem dX11_kinOf_56 : decode cX11_kinOf 56 = .ok (.istore 6, 2) := by decide +kernel
theorem dX11_kinOf_58 : decode cX11_kinOf 58 = .ok (.iload 5, 2) := by decide +kernel
theorem dX11_kinOf_60 : decode cX11_kinOf 60 = .ok (.iconst (-1), 1) := by decide +kernel
theorem dX11_kinOf_61 : decode cX11_kinOf 61 = .ok (.if_icmp .eq 25, 3) := by decide +kernel
theorem dX11_kinOf_64 : decode cX11_kinOf 64 = .ok (.aload_n 0, 1) := by decide +kernel
theorem dX11_kinOf_65 : decode cX11_kinOf 65 = .ok (.iload 5, 2) := by decide +kernel
theorem dX11_kinOf_67 : decode cX11_kinOf 67 = .ok (.iload_n 2, 1) := by decide +kernel
theorem dX11_kinOf_68 : decode cX11_kinOf 68 = .ok (.invokevirtual 141, 3) := by decide +kernel
theorem dX11_kinOf_71 : decode cX11_kinOf 71 = .ok (.ifCond .ne 13, 3) := by decide +kernel
theorem dX11_kinOf_74 : decode cX11_kinOf 74 = .ok (.aload_n 0, 1) := by decide +kernel
theorem dX11_kinOf_75 : decode cX11_kinOf 75 = .ok (.iload_n 2, 1) := by decide +kernel
theorem dX11_kinOf_76 : decode cX11_kinOf 76 = .ok (.iload 5, 2) := by decide +kernel
theorem dX11_kinOf_78 : decode cX11_kinOf 78 = .ok (.invokevirtual 137, 3) := by decide +kernel
theorem dX11_kinOf_81 : decode cX11_kinOf 81 = .ok (.ifCond .eq 5, 3) := by decide +kernel
theorem dX11_kinOf_84 : decode cX11_kinOf 84 = .ok (.iconst 2, 1) := by decide +kernel
theorem dX11_kinOf_85 : decode cX11_kinOf 85 = .ok (.ireturn, 1) := by decide +kernel
theorem dX11_kinOf_86 : decode cX11_kinOf 86 = .ok (.iload 6, 2) := by decide +kernel
theorem dX11_kinOf_88 : decode cX11_kinOf 88 = .ok (.iconst (-1), 1) := by decide +kernel
theorem dX11_kinOf_89 : decode cX11_kinOf 89 = .ok (.if_icmp .eq 25, 3) := by decide +kernel
theorem dX11_kinOf_92 : decode cX11_kinOf 92 = .ok (.aload_n 0, 1) := by decide +kernel
theorem dX11_kinOf_93 : decode cX11_kinOf 93 = .ok (.iload 6, 2) := by decide +kernel
theorem dX11_kinOf_95 : decode cX11_kinOf 95 = .ok (.iload_n 1, 1) := by decide +kernel
theorem dX11_kinOf_96 : decode cX11_kinOf 96 = .ok (.invokevirtual 141, 3) := by decide +kernel
theorem dX11_kinOf_99 : decode cX11_kinOf 99 = .ok (.ifCond .ne 13, 3) := by decide +kernel
theorem dX11_kinOf_102 : decode cX11_kinOf 102 = .ok (.aload_n 0, 1) := by decide +kernel
theorem dX11_kinOf_103 : decode cX11_kinOf 103 = .ok (.iload_n 1, 1) := by decide +kernel
theorem dX11_kinOf_104 : decode cX11_kinOf 104 = .ok (.iload 6, 2) := by decide +kernel
theorem dX11_kinOf_106 : decode cX11_kinOf 106 = .ok (.invokevirtual 137, 3) := by decide +kernel
theorem dX11_kinOf_109 : decode cX11_kinOf 109 = .ok (.ifCond .eq 5, 3) := by decide +kernel
theorem dX11_kinOf_112 : decode cX11_kinOf 112 = .ok (.iconst 2, 1) := by decide +kernel
theorem dX11_kinOf_113 : decode cX11_kinOf 113 = .ok (.ireturn, 1) := by decide +kernel
theorem dX11_kinOf_114 : decode cX11_kinOf 114 = .ok (.iconst 0, 1) := by decide +kernel
theorem dX11_kinOf_115 : decode cX11_kinOf 115 = .ok (.istore 7, 2) := by decide +kernel
theorem dX11_kinOf_117 : decode cX11_kinOf 117 = .ok (.iload 7, 2) := by decide +kernel
theorem dX11_kinOf_119 : decode cX11_kinOf 119 = .ok (.iconst 2, 1) := by decide +kernel
theorem dX11_kinOf_120 : decode cX11_kinOf 120 = .ok (.if_icmp .ge 44, 3) := by decide +kernel
theorem dX11_kinOf_123 : decode cX11_kinOf 123 = .ok (.iload 5, 2) := by decide +kernel
theorem dX11_kinOf_125 : decode cX11_kinOf 125 = .ok (.iconst (-1), 1) := by decide +kernel
theorem dX11_kinOf_126 : decode cX11_kinOf 126 = .ok (.if_icmp .eq 38, 3) := by decide +kernel
theorem dX11_kinOf_129 : decode cX11_kinOf 129 = .ok (.aload_n 0, 1) := by decide +kernel
theorem dX11_kinOf_130 : decode cX11_kinOf 130 = .ok (.iload_n 2, 1) := by decide +kernel
theorem dX11_kinOf_131 : decode cX11_kinOf 131 = .ok (.iload 7, 2) := by decide +kernel
theorem dX11_kinOf_133 : decode cX11_kinOf 133 = .ok (.invokevirtual 144, 3) := by decide +kernel
theorem dX11_kinOf_136 : decode cX11_kinOf 136 = .ok (.iconst (-1), 1) := by decide +kernel
theorem dX11_kinOf_137 : decode cX11_kinOf 137 = .ok (.if_icmp .eq 21, 3) := by decide +kernel
theorem dX11_kinOf_140 : decode cX11_kinOf 140 = .ok (.aload_n 0, 1) := by decide +kernel
theorem dX11_kinOf_141 : decode cX11_kinOf 141 = .ok (.iload 5, 2) := by decide +kernel
theorem dX11_kinOf_143 : decode cX11_kinOf 143 = .ok (.aload_n 0, 1) := by decide +kernel
theorem dX11_kinOf_144 : decode cX11_kinOf 144 = .ok (.iload_n 2, 1) := by decide +kernel
theorem dX11_kinOf_145 : decode cX11_kinOf 145 = .ok (.iload 7, 2) := by decide +kernel
theorem dX11_kinOf_147 : decode cX11_kinOf 147 = .ok (.invokevirtual 144, 3) := by decide +kernel
theorem dX11_kinOf_150 : decode cX11_kinOf 150 = .ok (.invokevirtual 141, 3) := by decide +kernel
theorem dX11_kinOf_153 : decode cX11_kinOf 153 = .ok (.ifCond .eq 5, 3) := by decide +kernel
theorem dX11_kinOf_156 : decode cX11_kinOf 156 = .ok (.iconst 3, 1) := by decide +kernel
theorem dX11_kinOf_157 : decode cX11_kinOf 157 = .ok (.istore_n 3, 1) := by decide +kernel
theorem dX11_kinOf_158 : decode cX11_kinOf 158 = .ok (.iinc 7 1, 3) := by decide +kernel
theorem dX11_kinOf_161 : decode cX11_kinOf 161 = .ok (.goto (-44), 3) := by decide +kernel
theorem dX11_kinOf_164 : decode cX11_kinOf 164 = .ok (.iinc 4 1, 3) := by decide +kernel
theorem dX11_kinOf_167 : decode cX11_kinOf 167 = .ok (.goto (-133), 3) := by decide +kernel
theorem dX11_kinOf_170 : decode cX11_kinOf 170 = .ok (.iload_n 3, 1) := by decide +kernel
theorem dX11_kinOf_171 : decode cX11_kinOf 171 = .ok (.ireturn, 1) := by decide +kernel
theorem dX11_kin_0 : decode cX11_kin 0 = .ok (.aload_n 0, 1) := by decide +kernel
theorem dX11_kin_1 : decode cX11_kin 1 = .ok (.iload_n 1, 1) := by decide +kernel
theorem dX11_kin_2 : decode cX11_kin 2 = .ok (.invokevirtual 117, 3) := by decide +kernel
theorem dX11_kin_5 : decode cX11_kin 5 = .ok (.ifCond .eq 25, 3) := by decide +kernel
theorem dX11_kin_8 : decode cX11_kin 8 = .ok (.aload_n 0, 1) := by decide +kernel
theorem dX11_kin_9 : decode cX11_kin 9 = .ok (.iload_n 2, 1) := by decide +kernel
theorem dX11_kin_10 : decode cX11_kin 10 = .ok (.invokevirtual 117, 3) := by decide +kernel
theorem dX11_kin_13 : decode cX11_kin 13 = .ok (.ifCond .eq 17, 3) := by decide +kernel
theorem dX11_kin_16 : decode cX11_kin 16 = .ok (.iload_n 1, 1) := by decide +kernel
theorem dX11_kin_17 : decode cX11_kin 17 = .ok (.iload_n 2, 1) := by decide +kernel
theorem dX11_kin_18 : decode cX11_kin 18 = .ok (.if_icmp .eq 12, 3) := by decide +kernel
theorem dX11_kin_21 : decode cX11_kin 21 = .ok (.aload_n 0, 1) := by decide +kernel
theorem dX11_kin_22 : decode cX11_kin 22 = .ok (.iload_n 1, 1) := by decide +kernel
theorem dX11_kin_23 : decode cX11_kin 23 = .ok (.iload_n 2, 1) := by decide +kernel
theorem dX11_kin_24 : decode cX11_kin 24 = .ok (.invokevirtual 147, 3) := by decide +kernel
theorem dX11_kin_27 : decode cX11_kin 27 = .ok (.goto 4, 3) := by decide +kernel
theorem dX11_kin_30 : decode cX11_kin 30 = .ok (.iconst (-1), 1) := by decide +kernel
theorem dX11_kin_31 : decode cX11_kin 31 = .ok (.ireturn, 1) := by decide +kernel
theorem dX11_isYoung_0 : decode cX11_isYoung 0 = .ok (.iload_n 2, 1) := by decide +kernel
theorem dX11_isYoung_1 : decode cX11_isYoung 1 = .ok (.aload_n 0, 1) := by decide +kernel
theorem dX11_isYoung_2 : decode cX11_isYoung 2 = .ok (.getfield 21, 3) := by decide +kernel
theorem dX11_isYoung_5 : decode cX11_isYoung 5 = .ok (.iload_n 1, 1) := by decide +kernel
theorem dX11_isYoung_6 : decode cX11_isYoung 6 = .ok (.iaload, 1) := by decide +kernel
theorem dX11_isYoung_7 : decode cX11_isYoung 7 = .ok (.isub, 1) := by decide +kernel
theorem dX11_isYoung_8 : decode cX11_isYoung 8 = .ok (.sipush 365, 3) := by decide +kernel
theorem dX11_isYoung_11 : decode cX11_isYoung 11 = .ok (.aload_n 0, 1) := by decide +kernel
theorem dX11_isYoung_12 : decode cX11_isYoung 12 = .ok (.iload_n 1, 1) := by decide +kernel
theorem dX11_isYoung_13 : decode cX11_isYoung 13 = .ok (.iload_n 2, 1) := by decide +kernel
theorem dX11_isYoung_14 : decode cX11_isYoung 14 = .ok (.iconst 2, 1) := by decide +kernel
theorem dX11_isYoung_15 : decode cX11_isYoung 15 = .ok (.invokevirtual 124, 3) := by decide +kernel
theorem dX11_isYoung_18 : decode cX11_isYoung 18 = .ok (.imul, 1) := by decide +kernel
theorem dX11_isYoung_19 : decode cX11_isYoung 19 = .ok (.if_icmp .ge 7, 3) := by decide +kernel
theorem dX11_isYoung_22 : decode cX11_isYoung 22 = .ok (.iconst 1, 1) := by decide +kernel
theorem dX11_isYoung_23 : decode cX11_isYoung 23 = .ok (.goto 4, 3) := by decide +kernel
theorem dX11_isYoung_26 : decode cX11_isYoung 26 = .ok (.iconst 0, 1) := by decide +kernel
theorem dX11_isYoung_27 : decode cX11_isYoung 27 = .ok (.ireturn, 1) := by decide +kernel
theorem dX11_lacks_0 : decode cX11_lacks 0 = .ok (.iconst 0, 1) := by decide +kernel
theorem dX11_lacks_1 : decode cX11_lacks 1 = .ok (.istore_n 3, 1) := by decide +kernel
theorem dX11_lacks_2 : decode cX11_lacks 2 = .ok (.iload_n 3, 1) := by decide +kernel
theorem dX11_lacks_3 : decode cX11_lacks 3 = .ok (.iconst 3, 1) := by decide +kernel
theorem dX11_lacks_4 : decode cX11_lacks 4 = .ok (.if_icmp .ge 36, 3) := by decide +kernel
theorem dX11_lacks_7 : decode cX11_lacks 7 = .ok (.aload_n 0, 1) := by decide +kernel
theorem dX11_lacks_8 : decode cX11_lacks 8 = .ok (.iload_n 1, 1) := by decide +kernel
theorem dX11_lacks_9 : decode cX11_lacks 9 = .ok (.iload_n 2, 1) := by decide +kernel
theorem dX11_lacks_10 : decode cX11_lacks 10 = .ok (.iconst 4, 1) := by decide +kernel
theorem dX11_lacks_11 : decode cX11_lacks 11 = .ok (.invokevirtual 124, 3) := by decide +kernel
theorem dX11_lacks_14 : decode cX11_lacks 14 = .ok (.iload_n 3, 1) := by decide +kernel
theorem dX11_lacks_15 : decode cX11_lacks 15 = .ok (.ishr, 1) := by decide +kernel
theorem dX11_lacks_16 : decode cX11_lacks 16 = .ok (.iconst 1, 1) := by decide +kernel
theorem dX11_lacks_17 : decode cX11_lacks 17 = .ok (.iand, 1) := by decide +kernel
theorem dX11_lacks_18 : decode cX11_lacks 18 = .ok (.iconst 1, 1) := by decide +kernel
theorem dX11_lacks_19 : decode cX11_lacks 19 = .ok (.if_icmp .ne 15, 3) := by decide +kernel
theorem dX11_lacks_22 : decode cX11_lacks 22 = .ok (.aload_n 0, 1) := by decide +kernel
theorem dX11_lacks_23 : decode cX11_lacks 23 = .ok (.iload_n 1, 1) := by decide +kernel
theorem dX11_lacks_24 : decode cX11_lacks 24 = .ok (.iload_n 3, 1) := by decide +kernel
theorem dX11_lacks_25 : decode cX11_lacks 25 = .ok (.iload_n 2, 1) := by decide +kernel
theorem dX11_lacks_26 : decode cX11_lacks 26 = .ok (.invokevirtual 150, 3) := by decide +kernel
theorem dX11_lacks_29 : decode cX11_lacks 29 = .ok (.ifCond .ne 5, 3) := by decide +kernel
theorem dX11_lacks_32 : decode cX11_lacks 32 = .ok (.iconst 1, 1) := by decide +kernel
theorem dX11_lacks_33 : decode cX11_lacks 33 = .ok (.ireturn, 1) := by decide +kernel
theorem dX11_lacks_34 : decode cX11_lacks 34 = .ok (.iinc 3 1, 3) := by decide +kernel
theorem dX11_lacks_37 : decode cX11_lacks 37 = .ok (.goto (-35), 3) := by decide +kernel
theorem dX11_lacks_40 : decode cX11_lacks 40 = .ok (.iconst 0, 1) := by decide +kernel
theorem dX11_lacks_41 : decode cX11_lacks 41 = .ok (.ireturn, 1) := by decide +kernel
theorem dX11_stands_0 : decode cX11_stands 0 = .ok (.aload_n 0, 1) := by decide +kernel
theorem dX11_stands_1 : decode cX11_stands 1 = .ok (.getfield 36, 3) := by decide +kernel
theorem dX11_stands_4 : decode cX11_stands 4 = .ok (.iload_n 1, 1) := by decide +kernel
theorem dX11_stands_5 : decode cX11_stands 5 = .ok (.iaload, 1) := by decide +kernel
theorem dX11_stands_6 : decode cX11_stands 6 = .ok (.iconst (-1), 1) := by decide +kernel
theorem dX11_stands_7 : decode cX11_stands 7 = .ok (.if_icmp .ne 13, 3) := by decide +kernel
theorem dX11_stands_10 : decode cX11_stands 10 = .ok (.aload_n 0, 1) := by decide +kernel
theorem dX11_stands_11 : decode cX11_stands 11 = .ok (.getfield 36, 3) := by decide +kernel
theorem dX11_stands_14 : decode cX11_stands 14 = .ok (.iload_n 2, 1) := by decide +kernel
theorem dX11_stands_15 : decode cX11_stands 15 = .ok (.iaload, 1) := by decide +kernel
theorem dX11_stands_16 : decode cX11_stands 16 = .ok (.iconst (-1), 1) := by decide +kernel
theorem dX11_stands_17 : decode cX11_stands 17 = .ok (.if_icmp .eq 5, 3) := by decide +kernel
theorem dX11_stands_20 : decode cX11_stands 20 = .ok (.iconst 1, 1) := by decide +kernel
theorem dX11_stands_21 : decode cX11_stands 21 = .ok (.ireturn, 1) := by decide +kernel
theorem dX11_stands_22 : decode cX11_stands 22 = .ok (.aload_n 0, 1) := by decide +kernel
theorem dX11_stands_23 : decode cX11_stands 23 = .ok (.iload_n 1, 1) := by decide +kernel
theorem dX11_stands_24 : decode cX11_stands 24 = .ok (.iload_n 3, 1) := by decide +kernel
theorem dX11_stands_25 : decode cX11_stands 25 = .ok (.invokevirtual 153, 3) := by decide +kernel
theorem dX11_stands_28 : decode cX11_stands 28 = .ok (.ifCond .ne 12, 3) := by decide +kernel
theorem dX11_stands_31 : decode cX11_stands 31 = .ok (.aload_n 0, 1) := by decide +kernel
theorem dX11_stands_32 : decode cX11_stands 32 = .ok (.iload_n 2, 1) := by decide +kernel
theorem dX11_stands_33 : decode cX11_stands 33 = .ok (.iload_n 3, 1) := by decide +kernel
theorem dX11_stands_34 : decode cX11_stands 34 = .ok (.invokevirtual 153, 3) := by decide +kernel
theorem dX11_stands_37 : decode cX11_stands 37 = .ok (.ifCond .eq 5, 3) := by decide +kernel
theorem dX11_stands_40 : decode cX11_stands 40 = .ok (.iconst 2, 1) := by decide +kernel
theorem dX11_stands_41 : decode cX11_stands 41 = .ok (.ireturn, 1) := by decide +kernel
theorem dX11_stands_42 : decode cX11_stands 42 = .ok (.aload_n 0, 1) := by decide +kernel
theorem dX11_stands_43 : decode cX11_stands 43 = .ok (.iload_n 1, 1) := by decide +kernel
theorem dX11_stands_44 : decode cX11_stands 44 = .ok (.iload_n 2, 1) := by decide +kernel
theorem dX11_stands_45 : decode cX11_stands 45 = .ok (.invokevirtual 147, 3) := by decide +kernel
theorem dX11_stands_48 : decode cX11_stands 48 = .ok (.istore 4, 2) := by decide +kernel
theorem dX11_stands_50 : decode cX11_stands 50 = .ok (.iload 4, 2) := by decide +kernel
theorem dX11_stands_52 : decode cX11_stands 52 = .ok (.ifCond .le 29, 3) := by decide +kernel
theorem dX11_stands_55 : decode cX11_stands 55 = .ok (.iload 4, 2) := by decide +kernel
theorem dX11_stands_57 : decode cX11_stands 57 = .ok (.aload_n 0, 1) := by decide +kernel
theorem dX11_stands_58 : decode cX11_stands 58 = .ok (.iload_n 1, 1) := by decide +kernel
theorem dX11_stands_59 : decode cX11_stands 59 = .ok (.iload_n 3, 1) := by decide +kernel
theorem dX11_stands_60 : decode cX11_stands 60 = .ok (.iconst 3, 1) := by decide +kernel
theorem dX11_stands_61 : decode cX11_stands 61 = .ok (.invokevirtual 124, 3) := by decide +kernel
theorem dX11_stands_64 : decode cX11_stands 64 = .ok (.if_icmp .le 15, 3) := by decide +kernel
theorem dX11_stands_67 : decode cX11_stands 67 = .ok (.iload 4, 2) := by decide +kernel
theorem dX11_stands_69 : decode cX11_stands 69 = .ok (.aload_n 0, 1) := by decide +kernel
theorem dX11_stands_70 : decode cX11_stands 70 = .ok (.iload_n 2, 1) := by decide +kernel
theorem dX11_stands_71 : decode cX11_stands 71 = .ok (.iload_n 3, 1) := by decide +kernel
theorem dX11_stands_72 : decode cX11_stands 72 = .ok (.iconst 3, 1) := by decide +kernel
theorem dX11_stands_73 : decode cX11_stands 73 = .ok (.invokevirtual 124, 3) := by decide +kernel
theorem dX11_stands_76 : decode cX11_stands 76 = .ok (.if_icmp .gt 5, 3) := by decide +kernel
theorem dX11_stands_79 : decode cX11_stands 79 = .ok (.iconst 3, 1) := by decide +kernel
theorem dX11_stands_80 : decode cX11_stands 80 = .ok (.ireturn, 1) := by decide +kernel
theorem dX11_stands_81 : decode cX11_stands 81 = .ok (.aload_n 0, 1) := by decide +kernel
theorem dX11_stands_82 : decode cX11_stands 82 = .ok (.iload_n 1, 1) := by decide +kernel
theorem dX11_stands_83 : decode cX11_stands 83 = .ok (.iload_n 3, 1) := by decide +kernel
theorem dX11_stands_84 : decode cX11_stands 84 = .ok (.invokevirtual 156, 3) := by decide +kernel
theorem dX11_stands_87 : decode cX11_stands 87 = .ok (.ifCond .ne 12, 3) := by decide +kernel
theorem dX11_stands_90 : decode cX11_stands 90 = .ok (.aload_n 0, 1) := by decide +kernel
theorem dX11_stands_91 : decode cX11_stands 91 = .ok (.iload_n 2, 1) := by decide +kernel
theorem dX11_stands_92 : decode cX11_stands 92 = .ok (.iload_n 3, 1) := by decide +kernel
theorem dX11_stands_93 : decode cX11_stands 93 = .ok (.invokevirtual 156, 3) := by decide +kernel
theorem dX11_stands_96 : decode cX11_stands 96 = .ok (.ifCond .eq 7, 3) := by decide +kernel
theorem dX11_stands_99 : decode cX11_stands 99 = .ok (.iconst 4, 1) := by decide +kernel
theorem dX11_stands_100 : decode cX11_stands 100 = .ok (.goto 4, 3) := by decide +kernel
theorem dX11_stands_103 : decode cX11_stands 103 = .ok (.iconst 0, 1) := by decide +kernel
theorem dX11_stands_104 : decode cX11_stands 104 = .ok (.ireturn, 1) := by decide +kernel
theorem dX11_against_0 : decode cX11_against 0 = .ok (.aload_n 0, 1) := by decide +kernel
theorem dX11_against_1 : decode cX11_against 1 = .ok (.iload_n 1, 1) := by decide +kernel
theorem dX11_against_2 : decode cX11_against 2 = .ok (.invokevirtual 117, 3) := by decide +kernel
theorem dX11_against_5 : decode cX11_against 5 = .ok (.ifCond .eq 37, 3) := by decide +kernel
theorem dX11_against_8 : decode cX11_against 8 = .ok (.aload_n 0, 1) := by decide +kernel
theorem dX11_against_9 : decode cX11_against 9 = .ok (.iload_n 2, 1) := by decide +kernel
theorem dX11_against_10 : decode cX11_against 10 = .ok (.invokevirtual 117, 3) := by decide +kernel
theorem dX11_against_13 : decode cX11_against 13 = .ok (.ifCond .eq 29, 3) := by decide +kernel
theorem dX11_against_16 : decode cX11_against 16 = .ok (.iload_n 1, 1) := by decide +kernel
theorem dX11_against_17 : decode cX11_against 17 = .ok (.iload_n 2, 1) := by decide +kernel
theorem dX11_against_18 : decode cX11_against 18 = .ok (.if_icmp .eq 24, 3) := by decide +kernel
theorem dX11_against_21 : decode cX11_against 21 = .ok (.iload_n 3, 1) := by decide +kernel
theorem dX11_against_22 : decode cX11_against 22 = .ok (.iconst 0, 1) := by decide +kernel
theorem dX11_against_23 : decode cX11_against 23 = .ok (.sipush 20000, 3) := by decide +kernel
theorem dX11_against_26 : decode cX11_against 26 = .ok (.invokestatic 98, 3) := by decide +kernel
theorem dX11_against_29 : decode cX11_against 29 = .ok (.ifCond .eq 13, 3) := by decide +kernel
theorem dX11_against_32 : decode cX11_against 32 = .ok (.aload_n 0, 1) := by decide +kernel
theorem dX11_against_33 : decode cX11_against 33 = .ok (.iload_n 1, 1) := by decide +kernel
theorem dX11_against_34 : decode cX11_against 34 = .ok (.iload_n 2, 1) := by decide +kernel
theorem dX11_against_35 : decode cX11_against 35 = .ok (.iload_n 3, 1) := by decide +kernel
theorem dX11_against_36 : decode cX11_against 36 = .ok (.invokevirtual 159, 3) := by decide +kernel
theorem dX11_against_39 : decode cX11_against 39 = .ok (.goto 4, 3) := by decide +kernel
theorem dX11_against_42 : decode cX11_against 42 = .ok (.iconst (-1), 1) := by decide +kernel
theorem dX11_against_43 : decode cX11_against 43 = .ok (.ireturn, 1) := by decide +kernel
theorem dX11_post_0 : decode cX11_post 0 = .ok (.aload_n 0, 1) := by decide +kernel
theorem dX11_post_1 : decode cX11_post 1 = .ok (.iload_n 1, 1) := by decide +kernel
theorem dX11_post_2 : decode cX11_post 2 = .ok (.invokevirtual 117, 3) := by decide +kernel
theorem dX11_post_5 : decode cX11_post 5 = .ok (.ifCond .eq 45, 3) := by decide +kernel
theorem dX11_post_8 : decode cX11_post 8 = .ok (.aload_n 0, 1) := by decide +kernel
theorem dX11_post_9 : decode cX11_post 9 = .ok (.iload_n 2, 1) := by decide +kernel
theorem dX11_post_10 : decode cX11_post 10 = .ok (.invokevirtual 117, 3) := by decide +kernel
theorem dX11_post_13 : decode cX11_post 13 = .ok (.ifCond .eq 37, 3) := by decide +kernel
theorem dX11_post_16 : decode cX11_post 16 = .ok (.iload_n 1, 1) := by decide +kernel
theorem dX11_post_17 : decode cX11_post 17 = .ok (.iload_n 2, 1) := by decide +kernel
theorem dX11_post_18 : decode cX11_post 18 = .ok (.if_icmp .eq 32, 3) := by decide +kernel
theorem dX11_post_21 : decode cX11_post 21 = .ok (.aload_n 0, 1) := by decide +kernel
theorem dX11_post_22 : decode cX11_post 22 = .ok (.getfield 36, 3) := by decide +kernel
theorem dX11_post_25 : decode cX11_post 25 = .ok (.iload_n 1, 1) := by decide +kernel
theorem dX11_post_26 : decode cX11_post 26 = .ok (.iaload, 1) := by decide +kernel
theorem dX11_post_27 : decode cX11_post 27 = .ok (.iconst (-1), 1) := by decide +kernel
theorem dX11_post_28 : decode cX11_post 28 = .ok (.if_icmp .ne 22, 3) := by decide +kernel
theorem dX11_post_31 : decode cX11_post 31 = .ok (.aload_n 0, 1) := by decide +kernel
theorem dX11_post_32 : decode cX11_post 32 = .ok (.getfield 36, 3) := by decide +kernel
theorem dX11_post_35 : decode cX11_post 35 = .ok (.iload_n 2, 1) := by decide +kernel
theorem dX11_post_36 : decode cX11_post 36 = .ok (.iaload, 1) := by decide +kernel
theorem dX11_post_37 : decode cX11_post 37 = .ok (.iconst (-1), 1) := by decide +kernel
theorem dX11_post_38 : decode cX11_post 38 = .ok (.if_icmp .ne 12, 3) := by decide +kernel
theorem dX11_post_41 : decode cX11_post 41 = .ok (.aload_n 0, 1) := by decide +kernel
theorem dX11_post_42 : decode cX11_post 42 = .ok (.getfield 102, 3) := by decide +kernel
theorem dX11_post_45 : decode cX11_post 45 = .ok (.bipush 60, 2) := by decide +kernel
theorem dX11_post_47 : decode cX11_post 47 = .ok (.if_icmp .ne 5, 3) := by decide +kernel
theorem dX11_post_50 : decode cX11_post 50 = .ok (.iconst (-1), 1) := by decide +kernel
theorem dX11_post_51 : decode cX11_post 51 = .ok (.ireturn, 1) := by decide +kernel
theorem dX11_post_52 : decode cX11_post 52 = .ok (.iconst 0, 1) := by decide +kernel
theorem dX11_post_53 : decode cX11_post 53 = .ok (.istore_n 3, 1) := by decide +kernel
theorem dX11_post_54 : decode cX11_post 54 = .ok (.iload_n 3, 1) := by decide +kernel
theorem dX11_post_55 : decode cX11_post 55 = .ok (.aload_n 0, 1) := by decide +kernel
theorem dX11_post_56 : decode cX11_post 56 = .ok (.getfield 102, 3) := by decide +kernel
theorem dX11_post_59 : decode cX11_post 59 = .ok (.if_icmp .ge 60, 3) := by decide +kernel
theorem dX11_post_62 : decode cX11_post 62 = .ok (.aload_n 0, 1) := by decide +kernel
theorem dX11_post_63 : decode cX11_post 63 = .ok (.getfield 61, 3) := by decide +kernel
theorem dX11_post_66 : decode cX11_post 66 = .ok (.iload_n 3, 1) := by decide +kernel
theorem dX11_post_67 : decode cX11_post 67 = .ok (.iaload, 1) := by decide +kernel
theorem dX11_post_68 : decode cX11_post 68 = .ok (.ifCond .ne 45, 3) := by decide +kernel
theorem dX11_post_71 : decode cX11_post 71 = .ok (.aload_n 0, 1) := by decide +kernel
theorem dX11_post_72 : decode cX11_post 72 = .ok (.getfield 52, 3) := by decide +kernel
theorem dX11_post_75 : decode cX11_post 75 = .ok (.iload_n 3, 1) := by decide +kernel
theorem dX11_post_76 : decode cX11_post 76 = .ok (.iaload, 1) := by decide +kernel
theorem dX11_post_77 : decode cX11_post 77 = .ok (.iload_n 1, 1) := by decide +kernel
theorem dX11_post_78 : decode cX11_post 78 = .ok (.if_icmp .ne 13, 3) := by decide +kernel
theorem dX11_post_81 : decode cX11_post 81 = .ok (.aload_n 0, 1) := by decide +kernel
theorem dX11_post_82 : decode cX11_post 82 = .ok (.getfield 55, 3) := by decide +kernel
theorem dX11_post_85 : decode cX11_post 85 = .ok (.iload_n 3, 1) := by decide +kernel
theorem dX11_post_86 : decode cX11_post 86 = .ok (.iaload, 1) := by decide +kernel
theorem dX11_post_87 : decode cX11_post 87 = .ok (.iload_n 2, 1) := by decide +kernel
theorem dX11_post_88 : decode cX11_post 88 = .ok (.if_icmp .eq 23, 3) := by decide +kernel
theorem dX11_post_91 : decode cX11_post 91 = .ok (.aload_n 0, 1) := by decide +kernel
theorem dX11_post_92 : decode cX11_post 92 = .ok (.getfield 52, 3) := by decide +kernel
theorem dX11_post_95 : decode cX11_post 95 = .ok (.iload_n 3, 1) := by decide +kernel
theorem dX11_post_96 : decode cX11_post 96 = .ok (.iaload, 1) := by decide +kernel
theorem dX11_post_97 : decode cX11_post 97 = .ok (.iload_n 2, 1) := by decide +kernel
theorem dX11_post_98 : decode cX11_post 98 = .ok (.if_icmp .ne 15, 3) := by decide +kernel
theorem dX11_post_101 : decode cX11_post 101 = .ok (.aload_n 0, 1) := by decide +kernel
theorem dX11_post_102 : decode cX11_post 102 = .ok (.getfield 55, 3) := by decide +kernel
theorem dX11_post_105 : decode cX11_post 105 = .ok (.iload_n 3, 1) := by decide +kernel
theorem dX11_post_106 : decode cX11_post 106 = .ok (.iaload, 1) := by decide +kernel
theorem dX11_post_107 : decode cX11_post 107 = .ok (.iload_n 1, 1) := by decide +kernel
theorem dX11_post_108 : decode cX11_post 108 = .ok (.if_icmp .ne 5, 3) := by decide +kernel
theorem dX11_post_111 : decode cX11_post 111 = .ok (.iconst (-1), 1) := by decide +kernel
theorem dX11_post_112 : decode cX11_post 112 = .ok (.ireturn, 1) := by decide +kernel
theorem dX11_post_113 : decode cX11_post 113 = .ok (.iinc 3 1, 3) := by decide +kernel
theorem dX11_post_116 : decode cX11_post 116 = .ok (.goto (-62), 3) := by decide +kernel
theorem dX11_post_119 : decode cX11_post 119 = .ok (.aload_n 0, 1) := by decide +kernel
theorem dX11_post_120 : decode cX11_post 120 = .ok (.getfield 52, 3) := by decide +kernel
theorem dX11_post_123 : decode cX11_post 123 = .ok (.aload_n 0, 1) := by decide +kernel
theorem dX11_post_124 : decode cX11_post 124 = .ok (.getfield 102, 3) := by decide +kernel
theorem dX11_post_127 : decode cX11_post 127 = .ok (.iload_n 1, 1) := by decide +kernel
theorem dX11_post_128 : decode cX11_post 128 = .ok (.iastore, 1) := by decide +kernel
theorem dX11_post_129 : decode cX11_post 129 = .ok (.aload_n 0, 1) := by decide +kernel
theorem dX11_post_130 : decode cX11_post 130 = .ok (.getfield 55, 3) := by decide +kernel
theorem dX11_post_133 : decode cX11_post 133 = .ok (.aload_n 0, 1) := by decide +kernel
theorem dX11_post_134 : decode cX11_post 134 = .ok (.getfield 102, 3) := by decide +kernel
theorem dX11_post_137 : decode cX11_post 137 = .ok (.iload_n 2, 1) := by decide +kernel
theorem dX11_post_138 : decode cX11_post 138 = .ok (.iastore, 1) := by decide +kernel
theorem dX11_post_139 : decode cX11_post 139 = .ok (.aload_n 0, 1) := by decide +kernel
theorem dX11_post_140 : decode cX11_post 140 = .ok (.getfield 58, 3) := by decide +kernel
theorem dX11_post_143 : decode cX11_post 143 = .ok (.aload_n 0, 1) := by decide +kernel
theorem dX11_post_144 : decode cX11_post 144 = .ok (.getfield 102, 3) := by decide +kernel
theorem dX11_post_147 : decode cX11_post 147 = .ok (.aload_n 0, 1) := by decide +kernel
theorem dX11_post_148 : decode cX11_post 148 = .ok (.getfield 114, 3) := by decide +kernel
theorem dX11_post_151 : decode cX11_post 151 = .ok (.iastore, 1) := by decide +kernel
theorem dX11_post_152 : decode cX11_post 152 = .ok (.aload_n 0, 1) := by decide +kernel
theorem dX11_post_153 : decode cX11_post 153 = .ok (.getfield 64, 3) := by decide +kernel
theorem dX11_post_156 : decode cX11_post 156 = .ok (.aload_n 0, 1) := by decide +kernel
theorem dX11_post_157 : decode cX11_post 157 = .ok (.getfield 102, 3) := by decide +kernel
theorem dX11_post_160 : decode cX11_post 160 = .ok (.iconst (-1), 1) := by decide +kernel
theorem dX11_post_161 : decode cX11_post 161 = .ok (.iastore, 1) := by decide +kernel
theorem dX11_post_162 : decode cX11_post 162 = .ok (.aload_n 0, 1) := by decide +kernel
theorem dX11_post_163 : decode cX11_post 163 = .ok (.getfield 67, 3) := by decide +kernel
theorem dX11_post_166 : decode cX11_post 166 = .ok (.aload_n 0, 1) := by decide +kernel
theorem dX11_post_167 : decode cX11_post 167 = .ok (.getfield 102, 3) := by decide +kernel
theorem dX11_post_170 : decode cX11_post 170 = .ok (.iconst (-1), 1) := by decide +kernel
theorem dX11_post_171 : decode cX11_post 171 = .ok (.iastore, 1) := by decide +kernel
theorem dX11_post_172 : decode cX11_post 172 = .ok (.aload_n 0, 1) := by decide +kernel
theorem dX11_post_173 : decode cX11_post 173 = .ok (.dup, 1) := by decide +kernel
theorem dX11_post_174 : decode cX11_post 174 = .ok (.getfield 102, 3) := by decide +kernel
theorem dX11_post_177 : decode cX11_post 177 = .ok (.iconst 1, 1) := by decide +kernel
theorem dX11_post_178 : decode cX11_post 178 = .ok (.iadd, 1) := by decide +kernel
theorem dX11_post_179 : decode cX11_post 179 = .ok (.putfield 102, 3) := by decide +kernel
theorem dX11_post_182 : decode cX11_post 182 = .ok (.aload_n 0, 1) := by decide +kernel
theorem dX11_post_183 : decode cX11_post 183 = .ok (.getfield 102, 3) := by decide +kernel
theorem dX11_post_186 : decode cX11_post 186 = .ok (.iconst 1, 1) := by decide +kernel
theorem dX11_post_187 : decode cX11_post 187 = .ok (.isub, 1) := by decide +kernel
theorem dX11_post_188 : decode cX11_post 188 = .ok (.ireturn, 1) := by decide +kernel
theorem dX11_withdraw_0 : decode cX11_withdraw 0 = .ok (.aload_n 0, 1) := by decide +kernel
theorem dX11_withdraw_1 : decode cX11_withdraw 1 = .ok (.iload_n 1, 1) := by decide +kernel
theorem dX11_withdraw_2 : decode cX11_withdraw 2 = .ok (.invokevirtual 162, 3) := by decide +kernel
theorem dX11_withdraw_5 : decode cX11_withdraw 5 = .ok (.ifCond .eq 12, 3) := by decide +kernel
theorem dX11_withdraw_8 : decode cX11_withdraw 8 = .ok (.aload_n 0, 1) := by decide +kernel
theorem dX11_withdraw_9 : decode cX11_withdraw 9 = .ok (.getfield 61, 3) := by decide +kernel
theorem dX11_withdraw_12 : decode cX11_withdraw 12 = .ok (.iload_n 1, 1) := by decide +kernel
theorem dX11_withdraw_13 : decode cX11_withdraw 13 = .ok (.iaload, 1) := by decide +kernel
theorem dX11_withdraw_14 : decode cX11_withdraw 14 = .ok (.ifCond .eq 5, 3) := by decide +kernel
theorem dX11_withdraw_17 : decode cX11_withdraw 17 = .ok (.iconst 0, 1) := by decide +kernel
theorem dX11_withdraw_18 : decode cX11_withdraw 18 = .ok (.ireturn, 1) := by decide +kernel
theorem dX11_withdraw_19 : decode cX11_withdraw 19 = .ok (.aload_n 0, 1) := by decide +kernel
theorem dX11_withdraw_20 : decode cX11_withdraw 20 = .ok (.getfield 61, 3) := by decide +kernel
theorem dX11_withdraw_23 : decode cX11_withdraw 23 = .ok (.iload_n 1, 1) := by decide +kernel
theorem dX11_withdraw_24 : decode cX11_withdraw 24 = .ok (.iconst 2, 1) := by decide +kernel
theorem dX11_withdraw_25 : decode cX11_withdraw 25 = .ok (.iastore, 1) := by decide +kernel
theorem dX11_withdraw_26 : decode cX11_withdraw 26 = .ok (.aload_n 0, 1) := by decide +kernel
theorem dX11_withdraw_27 : decode cX11_withdraw 27 = .ok (.getfield 64, 3) := by decide +kernel
theorem dX11_withdraw_30 : decode cX11_withdraw 30 = .ok (.iload_n 1, 1) := by decide +kernel
theorem dX11_withdraw_31 : decode cX11_withdraw 31 = .ok (.iconst (-1), 1) := by decide +kernel
theorem dX11_withdraw_32 : decode cX11_withdraw 32 = .ok (.iastore, 1) := by decide +kernel
theorem dX11_withdraw_33 : decode cX11_withdraw 33 = .ok (.aload_n 0, 1) := by decide +kernel
theorem dX11_withdraw_34 : decode cX11_withdraw 34 = .ok (.getfield 67, 3) := by decide +kernel
theorem dX11_withdraw_37 : decode cX11_withdraw 37 = .ok (.iload_n 1, 1) := by decide +kernel
theorem dX11_withdraw_38 : decode cX11_withdraw 38 = .ok (.iconst (-1), 1) := by decide +kernel
theorem dX11_withdraw_39 : decode cX11_withdraw 39 = .ok (.iastore, 1) := by decide +kernel
theorem dX11_withdraw_40 : decode cX11_withdraw 40 = .ok (.iconst 1, 1) := by decide +kernel
theorem dX11_withdraw_41 : decode cX11_withdraw 41 = .ok (.ireturn, 1) := by decide +kernel
theorem dX11_hungOf_0 : decode cX11_hungOf 0 = .ok (.iconst 0, 1) := by decide +kernel
theorem dX11_hungOf_1 : decode cX11_hungOf 1 = .ok (.istore_n 3, 1) := by decide +kernel
theorem dX11_hungOf_2 : decode cX11_hungOf 2 = .ok (.aload_n 0, 1) := by decide +kernel
theorem dX11_hungOf_3 : decode cX11_hungOf 3 = .ok (.getfield 58, 3) := by decide +kernel
theorem dX11_hungOf_6 : decode cX11_hungOf 6 = .ok (.iload_n 1, 1) := by decide +kernel
theorem dX11_hungOf_7 : decode cX11_hungOf 7 = .ok (.iaload, 1) := by decide +kernel
theorem dX11_hungOf_8 : decode cX11_hungOf 8 = .ok (.iconst 1, 1) := by decide +kernel
theorem dX11_hungOf_9 : decode cX11_hungOf 9 = .ok (.iadd, 1) := by decide +kernel
theorem dX11_hungOf_10 : decode cX11_hungOf 10 = .ok (.istore 4, 2) := by decide +kernel
theorem dX11_hungOf_12 : decode cX11_hungOf 12 = .ok (.iload 4, 2) := by decide +kernel
theorem dX11_hungOf_14 : decode cX11_hungOf 14 = .ok (.iload_n 2, 1) := by decide +kernel
theorem dX11_hungOf_15 : decode cX11_hungOf 15 = .ok (.if_icmp .ge 26, 3) := by decide +kernel
theorem dX11_hungOf_18 : decode cX11_hungOf 18 = .ok (.iload_n 3, 1) := by decide +kernel
theorem dX11_hungOf_19 : decode cX11_hungOf 19 = .ok (.aload_n 0, 1) := by decide +kernel
theorem dX11_hungOf_20 : decode cX11_hungOf 20 = .ok (.iload 4, 2) := by decide +kernel
theorem dX11_hungOf_22 : decode cX11_hungOf 22 = .ok (.invokevirtual 128, 3) := by decide +kernel
theorem dX11_hungOf_25 : decode cX11_hungOf 25 = .ok (.ifCond .eq 7, 3) := by decide +kernel
theorem dX11_hungOf_28 : decode cX11_hungOf 28 = .ok (.iconst 1, 1) := by decide +kernel
theorem dX11_hungOf_29 : decode cX11_hungOf 29 = .ok (.goto 4, 3) := by decide +kernel
theorem dX11_hungOf_32 : decode cX11_hungOf 32 = .ok (.iconst 0, 1) := by decide +kernel
theorem dX11_hungOf_33 : decode cX11_hungOf 33 = .ok (.iadd, 1) := by decide +kernel
theorem dX11_hungOf_34 : decode cX11_hungOf 34 = .ok (.istore_n 3, 1) := by decide +kernel
theorem dX11_hungOf_35 : decode cX11_hungOf 35 = .ok (.iinc 4 1, 3) := by decide +kernel
theorem dX11_hungOf_38 : decode cX11_hungOf 38 = .ok (.goto (-26), 3) := by decide +kernel
theorem dX11_hungOf_41 : decode cX11_hungOf 41 = .ok (.iload_n 3, 1) := by decide +kernel
theorem dX11_hungOf_42 : decode cX11_hungOf 42 = .ok (.ireturn, 1) := by decide +kernel
theorem dX11_hung_0 : decode cX11_hung 0 = .ok (.aload_n 0, 1) := by decide +kernel
theorem dX11_hung_1 : decode cX11_hung 1 = .ok (.iload_n 1, 1) := by decide +kernel
theorem dX11_hung_2 : decode cX11_hung 2 = .ok (.invokevirtual 162, 3) := by decide +kernel
theorem dX11_hung_5 : decode cX11_hung 5 = .ok (.ifCond .eq 23, 3) := by decide +kernel
theorem dX11_hung_8 : decode cX11_hung 8 = .ok (.iload_n 2, 1) := by decide +kernel
theorem dX11_hung_9 : decode cX11_hung 9 = .ok (.iconst 0, 1) := by decide +kernel
theorem dX11_hung_10 : decode cX11_hung 10 = .ok (.sipush 20000, 3) := by decide +kernel
theorem dX11_hung_13 : decode cX11_hung 13 = .ok (.invokestatic 98, 3) := by decide +kernel
theorem dX11_hung_16 : decode cX11_hung 16 = .ok (.ifCond .eq 12, 3) := by decide +kernel
theorem dX11_hung_19 : decode cX11_hung 19 = .ok (.aload_n 0, 1) := by decide +kernel
theorem dX11_hung_20 : decode cX11_hung 20 = .ok (.iload_n 1, 1) := by decide +kernel
theorem dX11_hung_21 : decode cX11_hung 21 = .ok (.iload_n 2, 1) := by decide +kernel
theorem dX11_hung_22 : decode cX11_hung 22 = .ok (.invokevirtual 165, 3) := by decide +kernel
theorem dX11_hung_25 : decode cX11_hung 25 = .ok (.goto 4, 3) := by decide +kernel
theorem dX11_hung_28 : decode cX11_hung 28 = .ok (.iconst (-1), 1) := by decide +kernel
theorem dX11_hung_29 : decode cX11_hung 29 = .ok (.ireturn, 1) := by decide +kernel
theorem dX11_wanted_0 : decode cX11_wanted 0 = .ok (.aload_n 0, 1) := by decide +kernel
theorem dX11_wanted_1 : decode cX11_wanted 1 = .ok (.aload_n 0, 1) := by decide +kernel
theorem dX11_wanted_2 : decode cX11_wanted 2 = .ok (.getfield 52, 3) := by decide +kernel
theorem dX11_wanted_5 : decode cX11_wanted 5 = .ok (.iload_n 1, 1) := by decide +kernel
theorem dX11_wanted_6 : decode cX11_wanted 6 = .ok (.iaload, 1) := by decide +kernel
theorem dX11_wanted_7 : decode cX11_wanted 7 = .ok (.iload_n 2, 1) := by decide +kernel
theorem dX11_wanted_8 : decode cX11_wanted 8 = .ok (.bipush 6, 2) := by decide +kernel
theorem dX11_wanted_10 : decode cX11_wanted 10 = .ok (.invokevirtual 124, 3) := by decide +kernel
theorem dX11_wanted_13 : decode cX11_wanted 13 = .ok (.aload_n 0, 1) := by decide +kernel
theorem dX11_wanted_14 : decode cX11_wanted 14 = .ok (.aload_n 0, 1) := by decide +kernel
theorem dX11_wanted_15 : decode cX11_wanted 15 = .ok (.getfield 55, 3) := by decide +kernel
theorem dX11_wanted_18 : decode cX11_wanted 18 = .ok (.iload_n 1, 1) := by decide +kernel
theorem dX11_wanted_19 : decode cX11_wanted 19 = .ok (.iaload, 1) := by decide +kernel
theorem dX11_wanted_20 : decode cX11_wanted 20 = .ok (.iload_n 2, 1) := by decide +kernel
theorem dX11_wanted_21 : decode cX11_wanted 21 = .ok (.bipush 6, 2) := by decide +kernel
theorem dX11_wanted_23 : decode cX11_wanted 23 = .ok (.invokevirtual 124, 3) := by decide +kernel
theorem dX11_wanted_26 : decode cX11_wanted 26 = .ok (.invokestatic 168, 3) := by decide +kernel
theorem dX11_wanted_29 : decode cX11_wanted 29 = .ok (.ireturn, 1) := by decide +kernel
theorem dX11_ripeOf_0 : decode cX11_ripeOf 0 = .ok (.iconst 0, 1) := by decide +kernel
theorem dX11_ripeOf_1 : decode cX11_ripeOf 1 = .ok (.istore_n 2, 1) := by decide +kernel
theorem dX11_ripeOf_2 : decode cX11_ripeOf 2 = .ok (.aload_n 0, 1) := by decide +kernel
theorem dX11_ripeOf_3 : decode cX11_ripeOf 3 = .ok (.getfield 58, 3) := by decide +kernel
theorem dX11_ripeOf_6 : decode cX11_ripeOf 6 = .ok (.iload_n 1, 1) := by decide +kernel
theorem dX11_ripeOf_7 : decode cX11_ripeOf 7 = .ok (.iaload, 1) := by decide +kernel
theorem dX11_ripeOf_8 : decode cX11_ripeOf 8 = .ok (.istore_n 3, 1) := by decide +kernel
theorem dX11_ripeOf_9 : decode cX11_ripeOf 9 = .ok (.iload_n 3, 1) := by decide +kernel
theorem dX11_ripeOf_10 : decode cX11_ripeOf 10 = .ok (.sipush 20000, 3) := by decide +kernel
theorem dX11_ripeOf_13 : decode cX11_ripeOf 13 = .ok (.if_icmp .gt 42, 3) := by decide +kernel
theorem dX11_ripeOf_16 : decode cX11_ripeOf 16 = .ok (.iload_n 2, 1) := by decide +kernel
theorem dX11_ripeOf_17 : decode cX11_ripeOf 17 = .ok (.aload_n 0, 1) := by decide +kernel
theorem dX11_ripeOf_18 : decode cX11_ripeOf 18 = .ok (.iload_n 1, 1) := by decide +kernel
theorem dX11_ripeOf_19 : decode cX11_ripeOf 19 = .ok (.iload_n 3, 1) := by decide +kernel
theorem dX11_ripeOf_20 : decode cX11_ripeOf 20 = .ok (.invokevirtual 171, 3) := by decide +kernel
theorem dX11_ripeOf_23 : decode cX11_ripeOf 23 = .ok (.if_icmp .lt 5, 3) := by decide +kernel
theorem dX11_ripeOf_26 : decode cX11_ripeOf 26 = .ok (.iload_n 3, 1) := by decide +kernel
theorem dX11_ripeOf_27 : decode cX11_ripeOf 27 = .ok (.ireturn, 1) := by decide +kernel
theorem dX11_ripeOf_28 : decode cX11_ripeOf 28 = .ok (.iload_n 3, 1) := by decide +kernel
theorem dX11_ripeOf_29 : decode cX11_ripeOf 29 = .ok (.aload_n 0, 1) := by decide +kernel
theorem dX11_ripeOf_30 : decode cX11_ripeOf 30 = .ok (.getfield 58, 3) := by decide +kernel
theorem dX11_ripeOf_33 : decode cX11_ripeOf 33 = .ok (.iload_n 1, 1) := by decide +kernel
theorem dX11_ripeOf_34 : decode cX11_ripeOf 34 = .ok (.iaload, 1) := by decide +kernel
theorem dX11_ripeOf_35 : decode cX11_ripeOf 35 = .ok (.if_icmp .le 14, 3) := by decide +kernel
theorem dX11_ripeOf_38 : decode cX11_ripeOf 38 = .ok (.aload_n 0, 1) := by decide +kernel
theorem dX11_ripeOf_39 : decode cX11_ripeOf 39 = .ok (.iload_n 3, 1) := by decide +kernel
theorem dX11_ripeOf_40 : decode cX11_ripeOf 40 = .ok (.invokevirtual 128, 3) := by decide +kernel
theorem dX11_ripeOf_43 : decode cX11_ripeOf 43 = .ok (.ifCond .eq 6, 3) := by decide +kernel
theorem dX11_ripeOf_46 : decode cX11_ripeOf 46 = .ok (.iinc 2 1, 3) := by decide +kernel
theorem dX11_ripeOf_49 : decode cX11_ripeOf 49 = .ok (.iinc 3 1, 3) := by decide +kernel
theorem dX11_ripeOf_52 : decode cX11_ripeOf 52 = .ok (.goto (-43), 3) := by decide +kernel
theorem dX11_ripeOf_55 : decode cX11_ripeOf 55 = .ok (.iconst (-1), 1) := by decide +kernel
theorem dX11_ripeOf_56 : decode cX11_ripeOf 56 = .ok (.ireturn, 1) := by decide +kernel
theorem dX11_ripe_0 : decode cX11_ripe 0 = .ok (.aload_n 0, 1) := by decide +kernel
theorem dX11_ripe_1 : decode cX11_ripe 1 = .ok (.iload_n 1, 1) := by decide +kernel
theorem dX11_ripe_2 : decode cX11_ripe 2 = .ok (.invokevirtual 162, 3) := by decide +kernel
theorem dX11_ripe_5 : decode cX11_ripe 5 = .ok (.ifCond .eq 11, 3) := by decide +kernel
theorem dX11_ripe_8 : decode cX11_ripe 8 = .ok (.aload_n 0, 1) := by decide +kernel
theorem dX11_ripe_9 : decode cX11_ripe 9 = .ok (.iload_n 1, 1) := by decide +kernel
theorem dX11_ripe_10 : decode cX11_ripe 10 = .ok (.invokevirtual 174, 3) := by decide +kernel
theorem dX11_ripe_13 : decode cX11_ripe 13 = .ok (.goto 4, 3) := by decide +kernel
theorem dX11_ripe_16 : decode cX11_ripe 16 = .ok (.iconst (-1), 1) := by decide +kernel
theorem dX11_ripe_17 : decode cX11_ripe 17 = .ok (.ireturn, 1) := by decide +kernel
theorem dX11_objected_0 : decode cX11_objected 0 = .ok (.iconst 0, 1) := by decide +kernel
theorem dX11_objected_1 : decode cX11_objected 1 = .ok (.istore_n 2, 1) := by decide +kernel
theorem dX11_objected_2 : decode cX11_objected 2 = .ok (.iconst 0, 1) := by decide +kernel
theorem dX11_objected_3 : decode cX11_objected 3 = .ok (.istore_n 3, 1) := by decide +kernel
theorem dX11_objected_4 : decode cX11_objected 4 = .ok (.iload_n 3, 1) := by decide +kernel
theorem dX11_objected_5 : decode cX11_objected 5 = .ok (.aload_n 0, 1) := by decide +kernel
theorem dX11_objected_6 : decode cX11_objected 6 = .ok (.getfield 178, 3) := by decide +kernel
theorem dX11_objected_9 : decode cX11_objected 9 = .ok (.if_icmp .ge 37, 3) := by decide +kernel
theorem dX11_objected_12 : decode cX11_objected 12 = .ok (.iload_n 2, 1) := by decide +kernel
theorem dX11_objected_13 : decode cX11_objected 13 = .ok (.aload_n 0, 1) := by decide +kernel
theorem dX11_objected_14 : decode cX11_objected 14 = .ok (.getfield 70, 3) := by decide +kernel
theorem dX11_objected_17 : decode cX11_objected 17 = .ok (.iload_n 3, 1) := by decide +kernel
theorem dX11_objected_18 : decode cX11_objected 18 = .ok (.iaload, 1) := by decide +kernel
theorem dX11_objected_19 : decode cX11_objected 19 = .ok (.iload_n 1, 1) := by decide +kernel
theorem dX11_objected_20 : decode cX11_objected 20 = .ok (.if_icmp .ne 17, 3) := by decide +kernel
theorem dX11_objected_23 : decode cX11_objected 23 = .ok (.aload_n 0, 1) := by decide +kernel
theorem dX11_objected_24 : decode cX11_objected 24 = .ok (.getfield 73, 3) := by decide +kernel
theorem dX11_objected_27 : decode cX11_objected 27 = .ok (.iload_n 3, 1) := by decide +kernel
theorem dX11_objected_28 : decode cX11_objected 28 = .ok (.iaload, 1) := by decide +kernel
theorem dX11_objected_29 : decode cX11_objected 29 = .ok (.iconst 2, 1) := by decide +kernel
theorem dX11_objected_30 : decode cX11_objected 30 = .ok (.if_icmp .ge 7, 3) := by decide +kernel
theorem dX11_objected_33 : decode cX11_objected 33 = .ok (.iconst 1, 1) := by decide +kernel
theorem dX11_objected_34 : decode cX11_objected 34 = .ok (.goto 4, 3) := by decide +kernel
theorem dX11_objected_37 : decode cX11_objected 37 = .ok (.iconst 0, 1) := by decide +kernel
theorem dX11_objected_38 : decode cX11_objected 38 = .ok (.iadd, 1) := by decide +kernel
theorem dX11_objected_39 : decode cX11_objected 39 = .ok (.istore_n 2, 1) := by decide +kernel
theorem dX11_objected_40 : decode cX11_objected 40 = .ok (.iinc 3 1, 3) := by decide +kernel
theorem dX11_objected_43 : decode cX11_objected 43 = .ok (.goto (-39), 3) := by decide +kernel
theorem dX11_objected_46 : decode cX11_objected 46 = .ok (.iload_n 2, 1) := by decide +kernel
theorem dX11_objected_47 : decode cX11_objected 47 = .ok (.ireturn, 1) := by decide +kernel
theorem dX11_isRipe_0 : decode cX11_isRipe 0 = .ok (.aload_n 0, 1) := by decide +kernel
theorem dX11_isRipe_1 : decode cX11_isRipe 1 = .ok (.iload_n 1, 1) := by decide +kernel
theorem dX11_isRipe_2 : decode cX11_isRipe 2 = .ok (.iload_n 2, 1) := by decide +kernel
theorem dX11_isRipe_3 : decode cX11_isRipe 3 = .ok (.invokevirtual 165, 3) := by decide +kernel
theorem dX11_isRipe_6 : decode cX11_isRipe 6 = .ok (.aload_n 0, 1) := by decide +kernel
theorem dX11_isRipe_7 : decode cX11_isRipe 7 = .ok (.iload_n 1, 1) := by decide +kernel
theorem dX11_isRipe_8 : decode cX11_isRipe 8 = .ok (.iload_n 2, 1) := by decide +kernel
theorem dX11_isRipe_9 : decode cX11_isRipe 9 = .ok (.invokevirtual 171, 3) := by decide +kernel
theorem dX11_isRipe_12 : decode cX11_isRipe 12 = .ok (.if_icmp .lt 15, 3) := by decide +kernel
theorem dX11_isRipe_15 : decode cX11_isRipe 15 = .ok (.aload_n 0, 1) := by decide +kernel
theorem dX11_isRipe_16 : decode cX11_isRipe 16 = .ok (.iload_n 1, 1) := by decide +kernel
theorem dX11_isRipe_17 : decode cX11_isRipe 17 = .ok (.invokevirtual 181, 3) := by decide +kernel
theorem dX11_isRipe_20 : decode cX11_isRipe 20 = .ok (.ifCond .ne 7, 3) := by decide +kernel
theorem dX11_isRipe_23 : decode cX11_isRipe 23 = .ok (.iconst 1, 1) := by decide +kernel
theorem dX11_isRipe_24 : decode cX11_isRipe 24 = .ok (.goto 4, 3) := by decide +kernel
theorem dX11_isRipe_27 : decode cX11_isRipe 27 = .ok (.iconst 0, 1) := by decide +kernel
theorem dX11_isRipe_28 : decode cX11_isRipe 28 = .ok (.ireturn, 1) := by decide +kernel
theorem dX11_object_0 : decode cX11_object 0 = .ok (.aload_n 0, 1) := by decide +kernel
theorem dX11_object_1 : decode cX11_object 1 = .ok (.iload_n 1, 1) := by decide +kernel
theorem dX11_object_2 : decode cX11_object 2 = .ok (.invokevirtual 162, 3) := by decide +kernel
theorem dX11_object_5 : decode cX11_object 5 = .ok (.ifCond .eq 21, 3) := by decide +kernel
theorem dX11_object_8 : decode cX11_object 8 = .ok (.aload_n 0, 1) := by decide +kernel
theorem dX11_object_9 : decode cX11_object 9 = .ok (.getfield 61, 3) := by decide +kernel
theorem dX11_object_12 : decode cX11_object 12 = .ok (.iload_n 1, 1) := by decide +kernel
theorem dX11_object_13 : decode cX11_object 13 = .ok (.iaload, 1) := by decide +kernel
theorem dX11_object_14 : decode cX11_object 14 = .ok (.ifCond .ne 12, 3) := by decide +kernel
theorem dX11_object_17 : decode cX11_object 17 = .ok (.aload_n 0, 1) := by decide +kernel
theorem dX11_object_18 : decode cX11_object 18 = .ok (.getfield 178, 3) := by decide +kernel
theorem dX11_object_21 : decode cX11_object 21 = .ok (.bipush 60, 2) := by decide +kernel
theorem dX11_object_23 : decode cX11_object 23 = .ok (.if_icmp .ne 5, 3) := by decide +kernel
theorem dX11_object_26 : decode cX11_object 26 = .ok (.iconst (-1), 1) := by decide +kernel
theorem dX11_object_27 : decode cX11_object 27 = .ok (.ireturn, 1) := by decide +kernel
theorem dX11_object_28 : decode cX11_object 28 = .ok (.aload_n 0, 1) := by decide +kernel
theorem dX11_object_29 : decode cX11_object 29 = .ok (.iload_n 1, 1) := by decide +kernel
theorem dX11_object_30 : decode cX11_object 30 = .ok (.invokevirtual 174, 3) := by decide +kernel
theorem dX11_object_33 : decode cX11_object 33 = .ok (.istore_n 2, 1) := by decide +kernel
theorem dX11_object_34 : decode cX11_object 34 = .ok (.iload_n 2, 1) := by decide +kernel
theorem dX11_object_35 : decode cX11_object 35 = .ok (.iconst (-1), 1) := by decide +kernel
theorem dX11_object_36 : decode cX11_object 36 = .ok (.if_icmp .eq 13, 3) := by decide +kernel
theorem dX11_object_39 : decode cX11_object 39 = .ok (.aload_n 0, 1) := by decide +kernel
theorem dX11_object_40 : decode cX11_object 40 = .ok (.getfield 114, 3) := by decide +kernel
theorem dX11_object_43 : decode cX11_object 43 = .ok (.iload_n 2, 1) := by decide +kernel
theorem dX11_object_44 : decode cX11_object 44 = .ok (.if_icmp .lt 5, 3) := by decide +kernel
theorem dX11_object_47 : decode cX11_object 47 = .ok (.iconst (-1), 1) := by decide +kernel
theorem dX11_object_48 : decode cX11_object 48 = .ok (.ireturn, 1) := by decide +kernel
theorem dX11_object_49 : decode cX11_object 49 = .ok (.aload_n 0, 1) := by decide +kernel
theorem dX11_object_50 : decode cX11_object 50 = .ok (.getfield 70, 3) := by decide +kernel
theorem dX11_object_53 : decode cX11_object 53 = .ok (.aload_n 0, 1) := by decide +kernel
theorem dX11_object_54 : decode cX11_object 54 = .ok (.getfield 178, 3) := by decide +kernel
theorem dX11_object_57 : decode cX11_object 57 = .ok (.iload_n 1, 1) := by decide +kernel
theorem dX11_object_58 : decode cX11_object 58 = .ok (.iastore, 1) := by decide +kernel
theorem dX11_object_59 : decode cX11_object 59 = .ok (.aload_n 0, 1) := by decide +kernel
theorem dX11_object_60 : decode cX11_object 60 = .ok (.dup, 1) := by decide +kernel
theorem dX11_object_61 : decode cX11_object 61 = .ok (.getfield 178, 3) := by decide +kernel
theorem dX11_object_64 : decode cX11_object 64 = .ok (.iconst 1, 1) := by decide +kernel
theorem dX11_object_65 : decode cX11_object 65 = .ok (.iadd, 1) := by decide +kernel
theorem dX11_object_66 : decode cX11_object 66 = .ok (.putfield 178, 3) := by decide +kernel
theorem dX11_object_69 : decode cX11_object 69 = .ok (.aload_n 0, 1) := by decide +kernel
theorem dX11_object_70 : decode cX11_object 70 = .ok (.getfield 178, 3) := by decide +kernel
theorem dX11_object_73 : decode cX11_object 73 = .ok (.iconst 1, 1) := by decide +kernel
theorem dX11_object_74 : decode cX11_object 74 = .ok (.isub, 1) := by decide +kernel
theorem dX11_object_75 : decode cX11_object 75 = .ok (.ireturn, 1) := by decide +kernel
theorem dX11_judge_0 : decode cX11_judge 0 = .ok (.iload_n 1, 1) := by decide +kernel
theorem dX11_judge_1 : decode cX11_judge 1 = .ok (.iconst 0, 1) := by decide +kernel
theorem dX11_judge_2 : decode cX11_judge 2 = .ok (.aload_n 0, 1) := by decide +kernel
theorem dX11_judge_3 : decode cX11_judge 3 = .ok (.getfield 178, 3) := by decide +kernel
theorem dX11_judge_6 : decode cX11_judge 6 = .ok (.iconst 1, 1) := by decide +kernel
theorem dX11_judge_7 : decode cX11_judge 7 = .ok (.isub, 1) := by decide +kernel
theorem dX11_judge_8 : decode cX11_judge 8 = .ok (.invokestatic 98, 3) := by decide +kernel
theorem dX11_judge_11 : decode cX11_judge 11 = .ok (.ifCond .eq 12, 3) := by decide +kernel
theorem dX11_judge_14 : decode cX11_judge 14 = .ok (.aload_n 0, 1) := by decide +kernel
theorem dX11_judge_15 : decode cX11_judge 15 = .ok (.getfield 73, 3) := by decide +kernel
theorem dX11_judge_18 : decode cX11_judge 18 = .ok (.iload_n 1, 1) := by decide +kernel
theorem dX11_judge_19 : decode cX11_judge 19 = .ok (.iaload, 1) := by decide +kernel
theorem dX11_judge_20 : decode cX11_judge 20 = .ok (.ifCond .eq 5, 3) := by decide +kernel
theorem dX11_judge_23 : decode cX11_judge 23 = .ok (.iconst 0, 1) := by decide +kernel
theorem dX11_judge_24 : decode cX11_judge 24 = .ok (.ireturn, 1) := by decide +kernel
theorem dX11_judge_25 : decode cX11_judge 25 = .ok (.aload_n 0, 1) := by decide +kernel
theorem dX11_judge_26 : decode cX11_judge 26 = .ok (.getfield 73, 3) := by decide +kernel
theorem dX11_judge_29 : decode cX11_judge 29 = .ok (.iload_n 1, 1) := by decide +kernel
theorem dX11_judge_30 : decode cX11_judge 30 = .ok (.iload_n 2, 1) := by decide +kernel
theorem dX11_judge_31 : decode cX11_judge 31 = .ok (.ifCond .eq 7, 3) := by decide +kernel
theorem dX11_judge_34 : decode cX11_judge 34 = .ok (.iconst 1, 1) := by decide +kernel
theorem dX11_judge_35 : decode cX11_judge 35 = .ok (.goto 4, 3) := by decide +kernel
theorem dX11_judge_38 : decode cX11_judge 38 = .ok (.iconst 2, 1) := by decide +kernel
theorem dX11_judge_39 : decode cX11_judge 39 = .ok (.iastore, 1) := by decide +kernel
theorem dX11_judge_40 : decode cX11_judge 40 = .ok (.iconst 1, 1) := by decide +kernel
theorem dX11_judge_41 : decode cX11_judge 41 = .ok (.ireturn, 1) := by decide +kernel
theorem dX11_registrar_0 : decode cX11_registrar 0 = .ok (.iload_n 1, 1) := by decide +kernel
theorem dX11_registrar_1 : decode cX11_registrar 1 = .ok (.iconst 0, 1) := by decide +kernel
theorem dX11_registrar_2 : decode cX11_registrar 2 = .ok (.bipush 31, 2) := by decide +kernel
theorem dX11_registrar_4 : decode cX11_registrar 4 = .ok (.invokestatic 98, 3) := by decide +kernel
theorem dX11_registrar_7 : decode cX11_registrar 7 = .ok (.ifCond .eq 12, 3) := by decide +kernel
theorem dX11_registrar_10 : decode cX11_registrar 10 = .ok (.aload_n 0, 1) := by decide +kernel
theorem dX11_registrar_11 : decode cX11_registrar 11 = .ok (.getfield 184, 3) := by decide +kernel
theorem dX11_registrar_14 : decode cX11_registrar 14 = .ok (.bipush 6, 2) := by decide +kernel
theorem dX11_registrar_16 : decode cX11_registrar 16 = .ok (.if_icmp .ne 5, 3) := by decide +kernel
theorem dX11_registrar_19 : decode cX11_registrar 19 = .ok (.iconst (-1), 1) := by decide +kernel
theorem dX11_registrar_20 : decode cX11_registrar 20 = .ok (.ireturn, 1) := by decide +kernel
theorem dX11_registrar_21 : decode cX11_registrar 21 = .ok (.aload_n 0, 1) := by decide +kernel
theorem dX11_registrar_22 : decode cX11_registrar 22 = .ok (.getfield 76, 3) := by decide +kernel
theorem dX11_registrar_25 : decode cX11_registrar 25 = .ok (.aload_n 0, 1) := by decide +kernel
theorem dX11_registrar_26 : decode cX11_registrar 26 = .ok (.getfield 184, 3) := by decide +kernel
theorem dX11_registrar_29 : decode cX11_registrar 29 = .ok (.iload_n 1, 1) := by decide +kernel
theorem dX11_registrar_30 : decode cX11_registrar 30 = .ok (.iastore, 1) := by decide +kernel
theorem dX11_registrar_31 : decode cX11_registrar 31 = .ok (.aload_n 0, 1) := by decide +kernel
theorem dX11_registrar_32 : decode cX11_registrar 32 = .ok (.dup, 1) := by decide +kernel
theorem dX11_registrar_33 : decode cX11_registrar 33 = .ok (.getfield 184, 3) := by decide +kernel
theorem dX11_registrar_36 : decode cX11_registrar 36 = .ok (.iconst 1, 1) := by decide +kernel
theorem dX11_registrar_37 : decode cX11_registrar 37 = .ok (.iadd, 1) := by decide +kernel
theorem dX11_registrar_38 : decode cX11_registrar 38 = .ok (.putfield 184, 3) := by decide +kernel
theorem dX11_registrar_41 : decode cX11_registrar 41 = .ok (.aload_n 0, 1) := by decide +kernel
theorem dX11_registrar_42 : decode cX11_registrar 42 = .ok (.getfield 184, 3) := by decide +kernel
theorem dX11_registrar_45 : decode cX11_registrar 45 = .ok (.iconst 1, 1) := by decide +kernel
theorem dX11_registrar_46 : decode cX11_registrar 46 = .ok (.isub, 1) := by decide +kernel
theorem dX11_registrar_47 : decode cX11_registrar 47 = .ok (.ireturn, 1) := by decide +kernel
theorem dX11_bars_0 : decode cX11_bars 0 = .ok (.aload_n 0, 1) := by decide +kernel
theorem dX11_bars_1 : decode cX11_bars 1 = .ok (.getfield 61, 3) := by decide +kernel
theorem dX11_bars_4 : decode cX11_bars 4 = .ok (.iload_n 1, 1) := by decide +kernel
theorem dX11_bars_5 : decode cX11_bars 5 = .ok (.iaload, 1) := by decide +kernel
theorem dX11_bars_6 : decode cX11_bars 6 = .ok (.ifCond .eq 5, 3) := by decide +kernel
theorem dX11_bars_9 : decode cX11_bars 9 = .ok (.iconst 1, 1) := by decide +kernel
theorem dX11_bars_10 : decode cX11_bars 10 = .ok (.ireturn, 1) := by decide +kernel
theorem dX11_bars_11 : decode cX11_bars 11 = .ok (.aload_n 0, 1) := by decide +kernel
theorem dX11_bars_12 : decode cX11_bars 12 = .ok (.iload_n 2, 1) := by decide +kernel
theorem dX11_bars_13 : decode cX11_bars 13 = .ok (.invokevirtual 128, 3) := by decide +kernel
theorem dX11_bars_16 : decode cX11_bars 16 = .ok (.ifCond .ne 5, 3) := by decide +kernel
theorem dX11_bars_19 : decode cX11_bars 19 = .ok (.iconst 2, 1) := by decide +kernel
theorem dX11_bars_20 : decode cX11_bars 20 = .ok (.ireturn, 1) := by decide +kernel
theorem dX11_bars_21 : decode cX11_bars 21 = .ok (.aload_n 0, 1) := by decide +kernel
theorem dX11_bars_22 : decode cX11_bars 22 = .ok (.iload_n 1, 1) := by decide +kernel
theorem dX11_bars_23 : decode cX11_bars 23 = .ok (.iload_n 2, 1) := by decide +kernel
theorem dX11_bars_24 : decode cX11_bars 24 = .ok (.invokevirtual 187, 3) := by decide +kernel
theorem dX11_bars_27 : decode cX11_bars 27 = .ok (.ifCond .ne 5, 3) := by decide +kernel
theorem dX11_bars_30 : decode cX11_bars 30 = .ok (.iconst 3, 1) := by decide +kernel
theorem dX11_bars_31 : decode cX11_bars 31 = .ok (.ireturn, 1) := by decide +kernel
theorem dX11_bars_32 : decode cX11_bars 32 = .ok (.bipush 8, 2) := by decide +kernel
theorem dX11_bars_34 : decode cX11_bars 34 = .ok (.istore 6, 2) := by decide +kernel
theorem dX11_bars_36 : decode cX11_bars 36 = .ok (.iconst 0, 1) := by decide +kernel
theorem dX11_bars_37 : decode cX11_bars 37 = .ok (.istore 7, 2) := by decide +kernel
theorem dX11_bars_39 : decode cX11_bars 39 = .ok (.iload 7, 2) := by decide +kernel
theorem dX11_bars_41 : decode cX11_bars 41 = .ok (.aload_n 0, 1) := by decide +kernel
theorem dX11_bars_42 : decode cX11_bars 42 = .ok (.getfield 102, 3) := by decide +kernel
theorem dX11_bars_45 : decode cX11_bars 45 = .ok (.if_icmp .ge 149, 3) := by decide +kernel
theorem dX11_bars_48 : decode cX11_bars 48 = .ok (.iload 7, 2) := by decide +kernel
theorem dX11_bars_50 : decode cX11_bars 50 = .ok (.iload_n 1, 1) := by decide +kernel
theorem dX11_bars_51 : decode cX11_bars 51 = .ok (.if_icmp .eq 137, 3) := by decide +kernel
theorem dX11_bars_54 : decode cX11_bars 54 = .ok (.aload_n 0, 1) := by decide +kernel
theorem dX11_bars_55 : decode cX11_bars 55 = .ok (.getfield 64, 3) := by decide +kernel
theorem dX11_bars_58 : decode cX11_bars 58 = .ok (.iload 7, 2) := by decide +kernel
theorem dX11_bars_60 : decode cX11_bars 60 = .ok (.iaload, 1) := by decide +kernel
theorem dX11_bars_61 : decode cX11_bars 61 = .ok (.iload_n 2, 1) := by decide +kernel
theorem dX11_bars_62 : decode cX11_bars 62 = .ok (.if_icmp .eq 6, 3) := by decide +kernel
theorem dX11_bars_65 : decode cX11_bars 65 = .ok (.goto 123, 3) := by decide +kernel
theorem dX11_bars_68 : decode cX11_bars 68 = .ok (.aload_n 0, 1) := by decide +kernel
theorem dX11_bars_69 : decode cX11_bars 69 = .ok (.getfield 67, 3) := by decide +kernel
theorem dX11_bars_72 : decode cX11_bars 72 = .ok (.iload 7, 2) := by decide +kernel
theorem dX11_bars_74 : decode cX11_bars 74 = .ok (.iaload, 1) := by decide +kernel
theorem dX11_bars_75 : decode cX11_bars 75 = .ok (.bipush 100, 2) := by decide +kernel
theorem dX11_bars_77 : decode cX11_bars 77 = .ok (.idiv, 1) := by decide +kernel
theorem dX11_bars_78 : decode cX11_bars 78 = .ok (.istore 8, 2) := by decide +kernel
theorem dX11_bars_80 : decode cX11_bars 80 = .ok (.aload_n 0, 1) := by decide +kernel
theorem dX11_bars_81 : decode cX11_bars 81 = .ok (.getfield 67, 3) := by decide +kernel
theorem dX11_bars_84 : decode cX11_bars 84 = .ok (.iload 7, 2) := by decide +kernel
theorem dX11_bars_86 : decode cX11_bars 86 = .ok (.iaload, 1) := by decide +kernel
theorem dX11_bars_87 : decode cX11_bars 87 = .ok (.bipush 10, 2) := by decide +kernel
theorem dX11_bars_89 : decode cX11_bars 89 = .ok (.idiv, 1) := by decide +kernel
theorem dX11_bars_90 : decode cX11_bars 90 = .ok (.bipush 10, 2) := by decide +kernel
theorem dX11_bars_92 : decode cX11_bars 92 = .ok (.irem, 1) := by decide +kernel
theorem dX11_bars_93 : decode cX11_bars 93 = .ok (.istore 9, 2) := by decide +kernel
theorem dX11_bars_95 : decode cX11_bars 95 = .ok (.aload_n 0, 1) := by decide +kernel
theorem dX11_bars_96 : decode cX11_bars 96 = .ok (.getfield 67, 3) := by decide +kernel
theorem dX11_bars_99 : decode cX11_bars 99 = .ok (.iload 7, 2) := by decide +kernel
theorem dX11_bars_101 : decode cX11_bars 101 = .ok (.iaload, 1) := by decide +kernel
theorem dX11_bars_102 : decode cX11_bars 102 = .ok (.bipush 10, 2) := by decide +kernel
theorem dX11_bars_104 : decode cX11_bars 104 = .ok (.irem, 1) := by decide +kernel
theorem dX11_bars_105 : decode cX11_bars 105 = .ok (.istore 10, 2) := by decide +kernel
theorem dX11_bars_107 : decode cX11_bars 107 = .ok (.iload 8, 2) := by decide +kernel
theorem dX11_bars_109 : decode cX11_bars 109 = .ok (.iload_n 3, 1) := by decide +kernel
theorem dX11_bars_110 : decode cX11_bars 110 = .ok (.if_icmp .ne 18, 3) := by decide +kernel
theorem dX11_bars_113 : decode cX11_bars 113 = .ok (.iload 9, 2) := by decide +kernel
theorem dX11_bars_115 : decode cX11_bars 115 = .ok (.iload 4, 2) := by decide +kernel
theorem dX11_bars_117 : decode cX11_bars 117 = .ok (.if_icmp .ne 11, 3) := by decide +kernel
theorem dX11_bars_120 : decode cX11_bars 120 = .ok (.iload 6, 2) := by decide +kernel
theorem dX11_bars_122 : decode cX11_bars 122 = .ok (.iconst 4, 1) := by decide +kernel
theorem dX11_bars_123 : decode cX11_bars 123 = .ok (.invokestatic 131, 3) := by decide +kernel
theorem dX11_bars_126 : decode cX11_bars 126 = .ok (.istore 6, 2) := by decide +kernel
theorem dX11_bars_128 : decode cX11_bars 128 = .ok (.iload 8, 2) := by decide +kernel
theorem dX11_bars_130 : decode cX11_bars 130 = .ok (.iload_n 3, 1) := by decide +kernel
theorem dX11_bars_131 : decode cX11_bars 131 = .ok (.if_icmp .ne 18, 3) := by decide +kernel
theorem dX11_bars_134 : decode cX11_bars 134 = .ok (.iload 10, 2) := by decide +kernel
theorem dX11_bars_136 : decode cX11_bars 136 = .ok (.iload 5, 2) := by decide +kernel
theorem dX11_bars_138 : decode cX11_bars 138 = .ok (.if_icmp .ne 11, 3) := by decide +kernel
theorem dX11_bars_141 : decode cX11_bars 141 = .ok (.iload 6, 2) := by decide +kernel
theorem dX11_bars_143 : decode cX11_bars 143 = .ok (.iconst 5, 1) := by decide +kernel
theorem dX11_bars_144 : decode cX11_bars 144 = .ok (.invokestatic 131, 3) := by decide +kernel
theorem dX11_bars_147 : decode cX11_bars 147 = .ok (.istore 6, 2) := by decide +kernel
theorem dX11_bars_149 : decode cX11_bars 149 = .ok (.iload 8, 2) := by decide +kernel
theorem dX11_bars_151 : decode cX11_bars 151 = .ok (.iload_n 3, 1) := by decide +kernel
theorem dX11_bars_152 : decode cX11_bars 152 = .ok (.iconst 1, 1) := by decide +kernel
theorem dX11_bars_153 : decode cX11_bars 153 = .ok (.isub, 1) := by decide +kernel
theorem dX11_bars_154 : decode cX11_bars 154 = .ok (.if_icmp .eq 11, 3) := by decide +kernel
theorem dX11_bars_157 : decode cX11_bars 157 = .ok (.iload 8, 2) := by decide +kernel
theorem dX11_bars_159 : decode cX11_bars 159 = .ok (.iload_n 3, 1) := by decide +kernel
theorem dX11_bars_160 : decode cX11_bars 160 = .ok (.iconst 1, 1) := by decide +kernel
theorem dX11_bars_161 : decode cX11_bars 161 = .ok (.iadd, 1) := by decide +kernel
theorem dX11_bars_162 : decode cX11_bars 162 = .ok (.if_icmp .ne 26, 3) := by decide +kernel
theorem dX11_bars_165 : decode cX11_bars 165 = .ok (.iload 10, 2) := by decide +kernel
theorem dX11_bars_167 : decode cX11_bars 167 = .ok (.iload 5, 2) := by decide +kernel
theorem dX11_bars_169 : decode cX11_bars 169 = .ok (.if_icmp .ne 19, 3) := by decide +kernel
theorem dX11_bars_172 : decode cX11_bars 172 = .ok (.iload 9, 2) := by decide +kernel
theorem dX11_bars_174 : decode cX11_bars 174 = .ok (.iload 4, 2) := by decide +kernel
theorem dX11_bars_176 : decode cX11_bars 176 = .ok (.if_icmp .eq 12, 3) := by decide +kernel
theorem dX11_bars_179 : decode cX11_bars 179 = .ok (.iload 6, 2) := by decide +kernel
theorem dX11_bars_181 : decode cX11_bars 181 = .ok (.bipush 6, 2) := by decide +kernel
theorem dX11_bars_183 : decode cX11_bars 183 = .ok (.invokestatic 131, 3) := by decide +kernel
theorem dX11_bars_186 : decode cX11_bars 186 = .ok (.istore 6, 2) := by decide +kernel
theorem dX11_bars_188 : decode cX11_bars 188 = .ok (.iinc 7 1, 3) := by decide +kernel
theorem dX11_bars_191 : decode cX11_bars 191 = .ok (.goto (-152), 3) := by decide +kernel
theorem dX11_bars_194 : decode cX11_bars 194 = .ok (.aload_n 0, 1) := by decide +kernel
theorem dX11_bars_195 : decode cX11_bars 195 = .ok (.getfield 76, 3) := by decide +kernel
theorem dX11_bars_198 : decode cX11_bars 198 = .ok (.iload 5, 2) := by decide +kernel
theorem dX11_bars_200 : decode cX11_bars 200 = .ok (.iaload, 1) := by decide +kernel
theorem dX11_bars_201 : decode cX11_bars 201 = .ok (.aload_n 0, 1) := by decide +kernel
theorem dX11_bars_202 : decode cX11_bars 202 = .ok (.getfield 30, 3) := by decide +kernel
theorem dX11_bars_205 : decode cX11_bars 205 = .ok (.aload_n 0, 1) := by decide +kernel
theorem dX11_bars_206 : decode cX11_bars 206 = .ok (.getfield 52, 3) := by decide +kernel
theorem dX11_bars_209 : decode cX11_bars 209 = .ok (.iload_n 1, 1) := by decide +kernel
theorem dX11_bars_210 : decode cX11_bars 210 = .ok (.iaload, 1) := by decide +kernel
theorem dX11_bars_211 : decode cX11_bars 211 = .ok (.iaload, 1) := by decide +kernel
theorem dX11_bars_212 : decode cX11_bars 212 = .ok (.iand, 1) := by decide +kernel
theorem dX11_bars_213 : decode cX11_bars 213 = .ok (.ifCond .eq 25, 3) := by decide +kernel
theorem dX11_bars_216 : decode cX11_bars 216 = .ok (.aload_n 0, 1) := by decide +kernel
theorem dX11_bars_217 : decode cX11_bars 217 = .ok (.getfield 76, 3) := by decide +kernel
theorem dX11_bars_220 : decode cX11_bars 220 = .ok (.iload 5, 2) := by decide +kernel
theorem dX11_bars_222 : decode cX11_bars 222 = .ok (.iaload, 1) := by decide +kernel
theorem dX11_bars_223 : decode cX11_bars 223 = .ok (.aload_n 0, 1) := by decide +kernel
theorem dX11_bars_224 : decode cX11_bars 224 = .ok (.getfield 30, 3) := by decide +kernel
theorem dX11_bars_227 : decode cX11_bars 227 = .ok (.aload_n 0, 1) := by decide +kernel
theorem dX11_bars_228 : decode cX11_bars 228 = .ok (.getfield 55, 3) := by decide +kernel
theorem dX11_bars_231 : decode cX11_bars 231 = .ok (.iload_n 1, 1) := by decide +kernel
theorem dX11_bars_232 : decode cX11_bars 232 = .ok (.iaload, 1) := by decide +kernel
theorem dX11_bars_233 : decode cX11_bars 233 = .ok (.iaload, 1) := by decide +kernel
theorem dX11_bars_234 : decode cX11_bars 234 = .ok (.iand, 1) := by decide +kernel
theorem dX11_bars_235 : decode cX11_bars 235 = .ok (.ifCond .ne 12, 3) := by decide +kernel
theorem dX11_bars_238 : decode cX11_bars 238 = .ok (.iload 6, 2) := by decide +kernel
theorem dX11_bars_240 : decode cX11_bars 240 = .ok (.bipush 7, 2) := by decide +kernel
theorem dX11_bars_242 : decode cX11_bars 242 = .ok (.invokestatic 131, 3) := by decide +kernel
theorem dX11_bars_245 : decode cX11_bars 245 = .ok (.istore 6, 2) := by decide +kernel
theorem dX11_bars_247 : decode cX11_bars 247 = .ok (.iload 6, 2) := by decide +kernel
theorem dX11_bars_249 : decode cX11_bars 249 = .ok (.bipush 8, 2) := by decide +kernel
theorem dX11_bars_251 : decode cX11_bars 251 = .ok (.if_icmp .ne 7, 3) := by decide +kernel
theorem dX11_bars_254 : decode cX11_bars 254 = .ok (.iconst 0, 1) := by decide +kernel
theorem dX11_bars_255 : decode cX11_bars 255 = .ok (.goto 5, 3) := by decide +kernel
theorem dX11_bars_258 : decode cX11_bars 258 = .ok (.iload 6, 2) := by decide +kernel
theorem dX11_bars_260 : decode cX11_bars 260 = .ok (.ireturn, 1) := by decide +kernel
theorem dX11_book_0 : decode cX11_book 0 = .ok (.iload_n 3, 1) := by decide +kernel
theorem dX11_book_1 : decode cX11_book 1 = .ok (.bipush 100, 2) := by decide +kernel
theorem dX11_book_3 : decode cX11_book 3 = .ok (.idiv, 1) := by decide +kernel
theorem dX11_book_4 : decode cX11_book 4 = .ok (.istore 4, 2) := by decide +kernel
theorem dX11_book_6 : decode cX11_book 6 = .ok (.iload_n 3, 1) := by decide +kernel
theorem dX11_book_7 : decode cX11_book 7 = .ok (.bipush 10, 2) := by decide +kernel
theorem dX11_book_9 : decode cX11_book 9 = .ok (.idiv, 1) := by decide +kernel
theorem dX11_book_10 : decode cX11_book 10 = .ok (.bipush 10, 2) := by decide +kernel
theorem dX11_book_12 : decode cX11_book 12 = .ok (.irem, 1) := by decide +kernel
theorem dX11_book_13 : decode cX11_book 13 = .ok (.istore 5, 2) := by decide +kernel
theorem dX11_book_15 : decode cX11_book 15 = .ok (.iload_n 3, 1) := by decide +kernel
theorem dX11_book_16 : decode cX11_book 16 = .ok (.bipush 10, 2) := by decide +kernel
theorem dX11_book_18 : decode cX11_book 18 = .ok (.irem, 1) := by decide +kernel
theorem dX11_book_19 : decode cX11_book 19 = .ok (.istore 6, 2) := by decide +kernel
theorem dX11_book_21 : decode cX11_book 21 = .ok (.aload_n 0, 1) := by decide +kernel
theorem dX11_book_22 : decode cX11_book 22 = .ok (.iload_n 1, 1) := by decide +kernel
theorem dX11_book_23 : decode cX11_book 23 = .ok (.invokevirtual 162, 3) := by decide +kernel
theorem dX11_book_26 : decode cX11_book 26 = .ok (.ifCond .eq 48, 3) := by decide +kernel
theorem dX11_book_29 : decode cX11_book 29 = .ok (.iload_n 3, 1) := by decide +kernel
theorem dX11_book_30 : decode cX11_book 30 = .ok (.ifCond .lt 44, 3) := by decide +kernel
theorem dX11_book_33 : decode cX11_book 33 = .ok (.iload 4, 2) := by decide +kernel
theorem dX11_book_35 : decode cX11_book 35 = .ok (.bipush 8, 2) := by decide +kernel
theorem dX11_book_37 : decode cX11_book 37 = .ok (.bipush 17, 2) := by decide +kernel
theorem dX11_book_39 : decode cX11_book 39 = .ok (.invokestatic 98, 3) := by decide +kernel
theorem dX11_book_42 : decode cX11_book 42 = .ok (.ifCond .eq 32, 3) := by decide +kernel
theorem dX11_book_45 : decode cX11_book 45 = .ok (.iload 5, 2) := by decide +kernel
theorem dX11_book_47 : decode cX11_book 47 = .ok (.iconst 3, 1) := by decide +kernel
theorem dX11_book_48 : decode cX11_book 48 = .ok (.if_icmp .gt 26, 3) := by decide +kernel
theorem dX11_book_51 : decode cX11_book 51 = .ok (.iload 6, 2) := by decide +kernel
theorem dX11_book_53 : decode cX11_book 53 = .ok (.aload_n 0, 1) := by decide +kernel
theorem dX11_book_54 : decode cX11_book 54 = .ok (.getfield 184, 3) := by decide +kernel
theorem dX11_book_57 : decode cX11_book 57 = .ok (.if_icmp .ge 17, 3) := by decide +kernel
theorem dX11_book_60 : decode cX11_book 60 = .ok (.iload_n 2, 1) := by decide +kernel
theorem dX11_book_61 : decode cX11_book 61 = .ok (.aload_n 0, 1) := by decide +kernel
theorem dX11_book_62 : decode cX11_book 62 = .ok (.getfield 114, 3) := by decide +kernel
theorem dX11_book_65 : decode cX11_book 65 = .ok (.sipush 20000, 3) := by decide +kernel
theorem dX11_book_68 : decode cX11_book 68 = .ok (.invokestatic 98, 3) := by decide +kernel
theorem dX11_book_71 : decode cX11_book 71 = .ok (.ifCond .ne 5, 3) := by decide +kernel
theorem dX11_book_74 : decode cX11_book 74 = .ok (.iconst (-1), 1) := by decide +kernel
theorem dX11_book_75 : decode cX11_book 75 = .ok (.ireturn, 1) := by decide +kernel
theorem dX11_book_76 : decode cX11_book 76 = .ok (.aload_n 0, 1) := by decide +kernel
theorem dX11_book_77 : decode cX11_book 77 = .ok (.iload_n 1, 1) := by decide +kernel
theorem dX11_book_78 : decode cX11_book 78 = .ok (.iload_n 2, 1) := by decide +kernel
theorem dX11_book_79 : decode cX11_book 79 = .ok (.iload 4, 2) := by decide +kernel
theorem dX11_book_81 : decode cX11_book 81 = .ok (.iload 5, 2) := by decide +kernel
theorem dX11_book_83 : decode cX11_book 83 = .ok (.iload 6, 2) := by decide +kernel
theorem dX11_book_85 : decode cX11_book 85 = .ok (.invokevirtual 190, 3) := by decide +kernel
theorem dX11_book_88 : decode cX11_book 88 = .ok (.istore 7, 2) := by decide +kernel
theorem dX11_book_90 : decode cX11_book 90 = .ok (.iload 7, 2) := by decide +kernel
theorem dX11_book_92 : decode cX11_book 92 = .ok (.ifCond .le 6, 3) := by decide +kernel
theorem dX11_book_95 : decode cX11_book 95 = .ok (.iload 7, 2) := by decide +kernel
theorem dX11_book_97 : decode cX11_book 97 = .ok (.ireturn, 1) := by decide +kernel
theorem dX11_book_98 : decode cX11_book 98 = .ok (.aload_n 0, 1) := by decide +kernel
theorem dX11_book_99 : decode cX11_book 99 = .ok (.getfield 64, 3) := by decide +kernel
theorem dX11_book_102 : decode cX11_book 102 = .ok (.iload_n 1, 1) := by decide +kernel
theorem dX11_book_103 : decode cX11_book 103 = .ok (.iload_n 2, 1) := by decide +kernel
theorem dX11_book_104 : decode cX11_book 104 = .ok (.iastore, 1) := by decide +kernel
theorem dX11_book_105 : decode cX11_book 105 = .ok (.aload_n 0, 1) := by decide +kernel
theorem dX11_book_106 : decode cX11_book 106 = .ok (.getfield 67, 3) := by decide +kernel
theorem dX11_book_109 : decode cX11_book 109 = .ok (.iload_n 1, 1) := by decide +kernel
theorem dX11_book_110 : decode cX11_book 110 = .ok (.iload_n 3, 1) := by decide +kernel
theorem dX11_book_111 : decode cX11_book 111 = .ok (.iastore, 1) := by decide +kernel
theorem dX11_book_112 : decode cX11_book 112 = .ok (.iconst 0, 1) := by decide +kernel
theorem dX11_book_113 : decode cX11_book 113 = .ok (.ireturn, 1) := by decide +kernel
theorem dX11_finds_0 : decode cX11_finds 0 = .ok (.bipush 8, 2) := by decide +kernel
theorem dX11_finds_2 : decode cX11_finds 2 = .ok (.istore_n 3, 1) := by decide +kernel
theorem dX11_finds_3 : decode cX11_finds 3 = .ok (.iload_n 3, 1) := by decide +kernel
theorem dX11_finds_4 : decode cX11_finds 4 = .ok (.bipush 17, 2) := by decide +kernel
theorem dX11_finds_6 : decode cX11_finds 6 = .ok (.if_icmp .gt 87, 3) := by decide +kernel
theorem dX11_finds_9 : decode cX11_finds 9 = .ok (.iconst 0, 1) := by decide +kernel
theorem dX11_finds_10 : decode cX11_finds 10 = .ok (.istore 4, 2) := by decide +kernel
theorem dX11_finds_12 : decode cX11_finds 12 = .ok (.iload 4, 2) := by decide +kernel
theorem dX11_finds_14 : decode cX11_finds 14 = .ok (.iconst 4, 1) := by decide +kernel
theorem dX11_finds_15 : decode cX11_finds 15 = .ok (.if_icmp .ge 72, 3) := by decide +kernel
theorem dX11_finds_18 : decode cX11_finds 18 = .ok (.iconst 0, 1) := by decide +kernel
theorem dX11_finds_19 : decode cX11_finds 19 = .ok (.istore 5, 2) := by decide +kernel
theorem dX11_finds_21 : decode cX11_finds 21 = .ok (.iload 5, 2) := by decide +kernel
theorem dX11_finds_23 : decode cX11_finds 23 = .ok (.aload_n 0, 1) := by decide +kernel
theorem dX11_finds_24 : decode cX11_finds 24 = .ok (.getfield 184, 3) := by decide +kernel
theorem dX11_finds_27 : decode cX11_finds 27 = .ok (.if_icmp .ge 54, 3) := by decide +kernel
theorem dX11_finds_30 : decode cX11_finds 30 = .ok (.aload_n 0, 1) := by decide +kernel
theorem dX11_finds_31 : decode cX11_finds 31 = .ok (.iload_n 1, 1) := by decide +kernel
theorem dX11_finds_32 : decode cX11_finds 32 = .ok (.iload_n 2, 1) := by decide +kernel
theorem dX11_finds_33 : decode cX11_finds 33 = .ok (.iload_n 3, 1) := by decide +kernel
theorem dX11_finds_34 : decode cX11_finds 34 = .ok (.iload 4, 2) := by decide +kernel
theorem dX11_finds_36 : decode cX11_finds 36 = .ok (.iload 5, 2) := by decide +kernel
theorem dX11_finds_38 : decode cX11_finds 38 = .ok (.invokevirtual 190, 3) := by decide +kernel
theorem dX11_finds_41 : decode cX11_finds 41 = .ok (.ifCond .le 6, 3) := by decide +kernel
theorem dX11_finds_44 : decode cX11_finds 44 = .ok (.goto 31, 3) := by decide +kernel
theorem dX11_finds_47 : decode cX11_finds 47 = .ok (.aload_n 0, 1) := by decide +kernel
theorem dX11_finds_48 : decode cX11_finds 48 = .ok (.getfield 64, 3) := by decide +kernel
theorem dX11_finds_51 : decode cX11_finds 51 = .ok (.iload_n 1, 1) := by decide +kernel
theorem dX11_finds_52 : decode cX11_finds 52 = .ok (.iload_n 2, 1) := by decide +kernel
theorem dX11_finds_53 : decode cX11_finds 53 = .ok (.iastore, 1) := by decide +kernel
theorem dX11_finds_54 : decode cX11_finds 54 = .ok (.aload_n 0, 1) := by decide +kernel
theorem dX11_finds_55 : decode cX11_finds 55 = .ok (.getfield 67, 3) := by decide +kernel
theorem dX11_finds_58 : decode cX11_finds 58 = .ok (.iload_n 1, 1) := by decide +kernel
theorem dX11_finds_59 : decode cX11_finds 59 = .ok (.bipush 100, 2) := by decide +kernel
theorem dX11_finds_61 : decode cX11_finds 61 = .ok (.iload_n 3, 1) := by decide +kernel
theorem dX11_finds_62 : decode cX11_finds 62 = .ok (.imul, 1) := by decide +kernel
theorem dX11_finds_63 : decode cX11_finds 63 = .ok (.bipush 10, 2) := by decide +kernel
theorem dX11_finds_65 : decode cX11_finds 65 = .ok (.iload 4, 2) := by decide +kernel
theorem dX11_finds_67 : decode cX11_finds 67 = .ok (.imul, 1) := by decide +kernel
theorem dX11_finds_68 : decode cX11_finds 68 = .ok (.iadd, 1) := by decide +kernel
theorem dX11_finds_69 : decode cX11_finds 69 = .ok (.iload 5, 2) := by decide +kernel
theorem dX11_finds_71 : decode cX11_finds 71 = .ok (.iadd, 1) := by decide +kernel
theorem dX11_finds_72 : decode cX11_finds 72 = .ok (.iastore, 1) := by decide +kernel
theorem dX11_finds_73 : decode cX11_finds 73 = .ok (.iconst 1, 1) := by decide +kernel
theorem dX11_finds_74 : decode cX11_finds 74 = .ok (.ireturn, 1) := by decide +kernel
theorem dX11_finds_75 : decode cX11_finds 75 = .ok (.iinc 5 1, 3) := by decide +kernel
theorem dX11_finds_78 : decode cX11_finds 78 = .ok (.goto (-57), 3) := by decide +kernel
theorem dX11_finds_81 : decode cX11_finds 81 = .ok (.iinc 4 1, 3) := by decide +kernel
theorem dX11_finds_84 : decode cX11_finds 84 = .ok (.goto (-72), 3) := by decide +kernel
theorem dX11_finds_87 : decode cX11_finds 87 = .ok (.iinc 3 1, 3) := by decide +kernel
theorem dX11_finds_90 : decode cX11_finds 90 = .ok (.goto (-87), 3) := by decide +kernel
theorem dX11_finds_93 : decode cX11_finds 93 = .ok (.iconst 0, 1) := by decide +kernel
theorem dX11_finds_94 : decode cX11_finds 94 = .ok (.ireturn, 1) := by decide +kernel
theorem dX11_order_0 : decode cX11_order 0 = .ok (.iload_n 1, 1) := by decide +kernel
theorem dX11_order_1 : decode cX11_order 1 = .ok (.aload_n 0, 1) := by decide +kernel
theorem dX11_order_2 : decode cX11_order 2 = .ok (.getfield 114, 3) := by decide +kernel
theorem dX11_order_5 : decode cX11_order 5 = .ok (.sipush 20000, 3) := by decide +kernel
theorem dX11_order_8 : decode cX11_order 8 = .ok (.invokestatic 98, 3) := by decide +kernel
theorem dX11_order_11 : decode cX11_order 11 = .ok (.ifCond .ne 5, 3) := by decide +kernel
theorem dX11_order_14 : decode cX11_order 14 = .ok (.iconst (-1), 1) := by decide +kernel
theorem dX11_order_15 : decode cX11_order 15 = .ok (.ireturn, 1) := by decide +kernel
theorem dX11_order_16 : decode cX11_order 16 = .ok (.iconst 0, 1) := by decide +kernel
theorem dX11_order_17 : decode cX11_order 17 = .ok (.istore_n 2, 1) := by decide +kernel
theorem dX11_order_18 : decode cX11_order 18 = .ok (.iconst 0, 1) := by decide +kernel
theorem dX11_order_19 : decode cX11_order 19 = .ok (.istore_n 3, 1) := by decide +kernel
theorem dX11_order_20 : decode cX11_order 20 = .ok (.iload_n 3, 1) := by decide +kernel
theorem dX11_order_21 : decode cX11_order 21 = .ok (.aload_n 0, 1) := by decide +kernel
theorem dX11_order_22 : decode cX11_order 22 = .ok (.getfield 102, 3) := by decide +kernel
theorem dX11_order_25 : decode cX11_order 25 = .ok (.if_icmp .ge 60, 3) := by decide +kernel
theorem dX11_order_28 : decode cX11_order 28 = .ok (.aload_n 0, 1) := by decide +kernel
theorem dX11_order_29 : decode cX11_order 29 = .ok (.getfield 61, 3) := by decide +kernel
theorem dX11_order_32 : decode cX11_order 32 = .ok (.iload_n 3, 1) := by decide +kernel
theorem dX11_order_33 : decode cX11_order 33 = .ok (.iaload, 1) := by decide +kernel
theorem dX11_order_34 : decode cX11_order 34 = .ok (.ifCond .ne 45, 3) := by decide +kernel
theorem dX11_order_37 : decode cX11_order 37 = .ok (.aload_n 0, 1) := by decide +kernel
theorem dX11_order_38 : decode cX11_order 38 = .ok (.getfield 64, 3) := by decide +kernel
theorem dX11_order_41 : decode cX11_order 41 = .ok (.iload_n 3, 1) := by decide +kernel
theorem dX11_order_42 : decode cX11_order 42 = .ok (.iaload, 1) := by decide +kernel
theorem dX11_order_43 : decode cX11_order 43 = .ok (.iconst (-1), 1) := by decide +kernel
theorem dX11_order_44 : decode cX11_order 44 = .ok (.if_icmp .ne 35, 3) := by decide +kernel
theorem dX11_order_47 : decode cX11_order 47 = .ok (.aload_n 0, 1) := by decide +kernel
theorem dX11_order_48 : decode cX11_order 48 = .ok (.aload_n 0, 1) := by decide +kernel
theorem dX11_order_49 : decode cX11_order 49 = .ok (.getfield 52, 3) := by decide +kernel
theorem dX11_order_52 : decode cX11_order 52 = .ok (.iload_n 3, 1) := by decide +kernel
theorem dX11_order_53 : decode cX11_order 53 = .ok (.iaload, 1) := by decide +kernel
theorem dX11_order_54 : decode cX11_order 54 = .ok (.aload_n 0, 1) := by decide +kernel
theorem dX11_order_55 : decode cX11_order 55 = .ok (.getfield 55, 3) := by decide +kernel
theorem dX11_order_58 : decode cX11_order 58 = .ok (.iload_n 3, 1) := by decide +kernel
theorem dX11_order_59 : decode cX11_order 59 = .ok (.iaload, 1) := by decide +kernel
theorem dX11_order_60 : decode cX11_order 60 = .ok (.iload_n 1, 1) := by decide +kernel
theorem dX11_order_61 : decode cX11_order 61 = .ok (.invokevirtual 159, 3) := by decide +kernel
theorem dX11_order_64 : decode cX11_order 64 = .ok (.ifCond .ne 15, 3) := by decide +kernel
theorem dX11_order_67 : decode cX11_order 67 = .ok (.aload_n 0, 1) := by decide +kernel
theorem dX11_order_68 : decode cX11_order 68 = .ok (.iload_n 3, 1) := by decide +kernel
theorem dX11_order_69 : decode cX11_order 69 = .ok (.iload_n 1, 1) := by decide +kernel
theorem dX11_order_70 : decode cX11_order 70 = .ok (.invokevirtual 194, 3) := by decide +kernel
theorem dX11_order_73 : decode cX11_order 73 = .ok (.ifCond .eq 6, 3) := by decide +kernel
theorem dX11_order_76 : decode cX11_order 76 = .ok (.iinc 2 1, 3) := by decide +kernel
theorem dX11_order_79 : decode cX11_order 79 = .ok (.iinc 3 1, 3) := by decide +kernel
theorem dX11_order_82 : decode cX11_order 82 = .ok (.goto (-62), 3) := by decide +kernel
theorem dX11_order_85 : decode cX11_order 85 = .ok (.iload_n 2, 1) := by decide +kernel
theorem dX11_order_86 : decode cX11_order 86 = .ok (.ireturn, 1) := by decide +kernel
theorem dX11_wed_0 : decode cX11_wed 0 = .ok (.aload_n 0, 1) := by decide +kernel
theorem dX11_wed_1 : decode cX11_wed 1 = .ok (.iload_n 1, 1) := by decide +kernel
theorem dX11_wed_2 : decode cX11_wed 2 = .ok (.invokevirtual 162, 3) := by decide +kernel
theorem dX11_wed_5 : decode cX11_wed 5 = .ok (.ifCond .eq 69, 3) := by decide +kernel
theorem dX11_wed_8 : decode cX11_wed 8 = .ok (.aload_n 0, 1) := by decide +kernel
theorem dX11_wed_9 : decode cX11_wed 9 = .ok (.getfield 61, 3) := by decide +kernel
theorem dX11_wed_12 : decode cX11_wed 12 = .ok (.iload_n 1, 1) := by decide +kernel
theorem dX11_wed_13 : decode cX11_wed 13 = .ok (.iaload, 1) := by decide +kernel
theorem dX11_wed_14 : decode cX11_wed 14 = .ok (.ifCond .ne 60, 3) := by decide +kernel
theorem dX11_wed_17 : decode cX11_wed 17 = .ok (.aload_n 0, 1) := by decide +kernel
theorem dX11_wed_18 : decode cX11_wed 18 = .ok (.getfield 64, 3) := by decide +kernel
theorem dX11_wed_21 : decode cX11_wed 21 = .ok (.iload_n 1, 1) := by decide +kernel
theorem dX11_wed_22 : decode cX11_wed 22 = .ok (.iaload, 1) := by decide +kernel
theorem dX11_wed_23 : decode cX11_wed 23 = .ok (.aload_n 0, 1) := by decide +kernel
theorem dX11_wed_24 : decode cX11_wed 24 = .ok (.getfield 114, 3) := by decide +kernel
theorem dX11_wed_27 : decode cX11_wed 27 = .ok (.if_icmp .ne 47, 3) := by decide +kernel
theorem dX11_wed_30 : decode cX11_wed 30 = .ok (.aload_n 0, 1) := by decide +kernel
theorem dX11_wed_31 : decode cX11_wed 31 = .ok (.aload_n 0, 1) := by decide +kernel
theorem dX11_wed_32 : decode cX11_wed 32 = .ok (.getfield 52, 3) := by decide +kernel
theorem dX11_wed_35 : decode cX11_wed 35 = .ok (.iload_n 1, 1) := by decide +kernel
theorem dX11_wed_36 : decode cX11_wed 36 = .ok (.iaload, 1) := by decide +kernel
theorem dX11_wed_37 : decode cX11_wed 37 = .ok (.aload_n 0, 1) := by decide +kernel
theorem dX11_wed_38 : decode cX11_wed 38 = .ok (.getfield 55, 3) := by decide +kernel
theorem dX11_wed_41 : decode cX11_wed 41 = .ok (.iload_n 1, 1) := by decide +kernel
theorem dX11_wed_42 : decode cX11_wed 42 = .ok (.iaload, 1) := by decide +kernel
theorem dX11_wed_43 : decode cX11_wed 43 = .ok (.aload_n 0, 1) := by decide +kernel
theorem dX11_wed_44 : decode cX11_wed 44 = .ok (.getfield 114, 3) := by decide +kernel
theorem dX11_wed_47 : decode cX11_wed 47 = .ok (.invokevirtual 159, 3) := by decide +kernel
theorem dX11_wed_50 : decode cX11_wed 50 = .ok (.ifCond .ne 24, 3) := by decide +kernel
theorem dX11_wed_53 : decode cX11_wed 53 = .ok (.aload_n 0, 1) := by decide +kernel
theorem dX11_wed_54 : decode cX11_wed 54 = .ok (.iload_n 1, 1) := by decide +kernel
theorem dX11_wed_55 : decode cX11_wed 55 = .ok (.aload_n 0, 1) := by decide +kernel
theorem dX11_wed_56 : decode cX11_wed 56 = .ok (.getfield 114, 3) := by decide +kernel
theorem dX11_wed_59 : decode cX11_wed 59 = .ok (.invokevirtual 187, 3) := by decide +kernel
theorem dX11_wed_62 : decode cX11_wed 62 = .ok (.ifCond .eq 12, 3) := by decide +kernel
theorem dX11_wed_65 : decode cX11_wed 65 = .ok (.aload_n 0, 1) := by decide +kernel
theorem dX11_wed_66 : decode cX11_wed 66 = .ok (.getfield 197, 3) := by decide +kernel
theorem dX11_wed_69 : decode cX11_wed 69 = .ok (.bipush 60, 2) := by decide +kernel
theorem dX11_wed_71 : decode cX11_wed 71 = .ok (.if_icmp .ne 5, 3) := by decide +kernel
theorem dX11_wed_74 : decode cX11_wed 74 = .ok (.iconst (-1), 1) := by decide +kernel
theorem dX11_wed_75 : decode cX11_wed 75 = .ok (.ireturn, 1) := by decide +kernel
theorem dX11_wed_76 : decode cX11_wed 76 = .ok (.aload_n 0, 1) := by decide +kernel
theorem dX11_wed_77 : decode cX11_wed 77 = .ok (.getfield 52, 3) := by decide +kernel
theorem dX11_wed_80 : decode cX11_wed 80 = .ok (.iload_n 1, 1) := by decide +kernel
theorem dX11_wed_81 : decode cX11_wed 81 = .ok (.iaload, 1) := by decide +kernel
theorem dX11_wed_82 : decode cX11_wed 82 = .ok (.istore_n 2, 1) := by decide +kernel
theorem dX11_wed_83 : decode cX11_wed 83 = .ok (.aload_n 0, 1) := by decide +kernel
theorem dX11_wed_84 : decode cX11_wed 84 = .ok (.getfield 55, 3) := by decide +kernel
theorem dX11_wed_87 : decode cX11_wed 87 = .ok (.iload_n 1, 1) := by decide +kernel
theorem dX11_wed_88 : decode cX11_wed 88 = .ok (.iaload, 1) := by decide +kernel
theorem dX11_wed_89 : decode cX11_wed 89 = .ok (.istore_n 3, 1) := by decide +kernel
theorem dX11_wed_90 : decode cX11_wed 90 = .ok (.aload_n 0, 1) := by decide +kernel
theorem dX11_wed_91 : decode cX11_wed 91 = .ok (.getfield 36, 3) := by decide +kernel
theorem dX11_wed_94 : decode cX11_wed 94 = .ok (.iload_n 2, 1) := by decide +kernel
theorem dX11_wed_95 : decode cX11_wed 95 = .ok (.iload_n 3, 1) := by decide +kernel
theorem dX11_wed_96 : decode cX11_wed 96 = .ok (.iastore, 1) := by decide +kernel
theorem dX11_wed_97 : decode cX11_wed 97 = .ok (.aload_n 0, 1) := by decide +kernel
theorem dX11_wed_98 : decode cX11_wed 98 = .ok (.getfield 36, 3) := by decide +kernel
theorem dX11_wed_101 : decode cX11_wed 101 = .ok (.iload_n 3, 1) := by decide +kernel
theorem dX11_wed_102 : decode cX11_wed 102 = .ok (.iload_n 2, 1) := by decide +kernel
theorem dX11_wed_103 : decode cX11_wed 103 = .ok (.iastore, 1) := by decide +kernel
theorem dX11_wed_104 : decode cX11_wed 104 = .ok (.aload_n 0, 1) := by decide +kernel
theorem dX11_wed_105 : decode cX11_wed 105 = .ok (.getfield 61, 3) := by decide +kernel
theorem dX11_wed_108 : decode cX11_wed 108 = .ok (.iload_n 1, 1) := by decide +kernel
theorem dX11_wed_109 : decode cX11_wed 109 = .ok (.iconst 1, 1) := by decide +kernel
theorem dX11_wed_110 : decode cX11_wed 110 = .ok (.iastore, 1) := by decide +kernel
theorem dX11_wed_111 : decode cX11_wed 111 = .ok (.aload_n 0, 1) := by decide +kernel
theorem dX11_wed_112 : decode cX11_wed 112 = .ok (.getfield 79, 3) := by decide +kernel
theorem dX11_wed_115 : decode cX11_wed 115 = .ok (.aload_n 0, 1) := by decide +kernel
theorem dX11_wed_116 : decode cX11_wed 116 = .ok (.getfield 197, 3) := by decide +kernel
theorem dX11_wed_119 : decode cX11_wed 119 = .ok (.aaload, 1) := by decide +kernel
theorem dX11_wed_120 : decode cX11_wed 120 = .ok (.astore 4, 2) := by decide +kernel
theorem dX11_wed_122 : decode cX11_wed 122 = .ok (.aload 4, 2) := by decide +kernel
theorem dX11_wed_124 : decode cX11_wed 124 = .ok (.iconst 0, 1) := by decide +kernel
theorem dX11_wed_125 : decode cX11_wed 125 = .ok (.aload_n 0, 1) := by decide +kernel
theorem dX11_wed_126 : decode cX11_wed 126 = .ok (.getfield 114, 3) := by decide +kernel
theorem dX11_wed_129 : decode cX11_wed 129 = .ok (.iastore, 1) := by decide +kernel
theorem dX11_wed_130 : decode cX11_wed 130 = .ok (.aload 4, 2) := by decide +kernel
theorem dX11_wed_132 : decode cX11_wed 132 = .ok (.iconst 1, 1) := by decide +kernel
theorem dX11_wed_133 : decode cX11_wed 133 = .ok (.aload_n 0, 1) := by decide +kernel
theorem dX11_wed_134 : decode cX11_wed 134 = .ok (.getfield 33, 3) := by decide +kernel
theorem dX11_wed_137 : decode cX11_wed 137 = .ok (.iload_n 2, 1) := by decide +kernel
theorem dX11_wed_138 : decode cX11_wed 138 = .ok (.iaload, 1) := by decide +kernel
theorem dX11_wed_139 : decode cX11_wed 139 = .ok (.iastore, 1) := by decide +kernel
theorem dX11_wed_140 : decode cX11_wed 140 = .ok (.aload 4, 2) := by decide +kernel
theorem dX11_wed_142 : decode cX11_wed 142 = .ok (.iconst 2, 1) := by decide +kernel
theorem dX11_wed_143 : decode cX11_wed 143 = .ok (.aload_n 0, 1) := by decide +kernel
theorem dX11_wed_144 : decode cX11_wed 144 = .ok (.getfield 33, 3) := by decide +kernel
theorem dX11_wed_147 : decode cX11_wed 147 = .ok (.iload_n 3, 1) := by decide +kernel
theorem dX11_wed_148 : decode cX11_wed 148 = .ok (.iaload, 1) := by decide +kernel
theorem dX11_wed_149 : decode cX11_wed 149 = .ok (.iastore, 1) := by decide +kernel
theorem dX11_wed_150 : decode cX11_wed 150 = .ok (.aload 4, 2) := by decide +kernel
theorem dX11_wed_152 : decode cX11_wed 152 = .ok (.iconst 3, 1) := by decide +kernel
theorem dX11_wed_153 : decode cX11_wed 153 = .ok (.aload_n 0, 1) := by decide +kernel
theorem dX11_wed_154 : decode cX11_wed 154 = .ok (.getfield 67, 3) := by decide +kernel
theorem dX11_wed_157 : decode cX11_wed 157 = .ok (.iload_n 1, 1) := by decide +kernel
theorem dX11_wed_158 : decode cX11_wed 158 = .ok (.iaload, 1) := by decide +kernel
theorem dX11_wed_159 : decode cX11_wed 159 = .ok (.bipush 10, 2) := by decide +kernel
theorem dX11_wed_161 : decode cX11_wed 161 = .ok (.idiv, 1) := by decide +kernel
theorem dX11_wed_162 : decode cX11_wed 162 = .ok (.bipush 10, 2) := by decide +kernel
theorem dX11_wed_164 : decode cX11_wed 164 = .ok (.irem, 1) := by decide +kernel
theorem dX11_wed_165 : decode cX11_wed 165 = .ok (.iastore, 1) := by decide +kernel
theorem dX11_wed_166 : decode cX11_wed 166 = .ok (.aload 4, 2) := by decide +kernel
theorem dX11_wed_168 : decode cX11_wed 168 = .ok (.iconst 4, 1) := by decide +kernel
theorem dX11_wed_169 : decode cX11_wed 169 = .ok (.aload_n 0, 1) := by decide +kernel
theorem dX11_wed_170 : decode cX11_wed 170 = .ok (.getfield 67, 3) := by decide +kernel
theorem dX11_wed_173 : decode cX11_wed 173 = .ok (.iload_n 1, 1) := by decide +kernel
theorem dX11_wed_174 : decode cX11_wed 174 = .ok (.iaload, 1) := by decide +kernel
theorem dX11_wed_175 : decode cX11_wed 175 = .ok (.bipush 10, 2) := by decide +kernel
theorem dX11_wed_177 : decode cX11_wed 177 = .ok (.irem, 1) := by decide +kernel
theorem dX11_wed_178 : decode cX11_wed 178 = .ok (.iastore, 1) := by decide +kernel
theorem dX11_wed_179 : decode cX11_wed 179 = .ok (.aload 4, 2) := by decide +kernel
theorem dX11_wed_181 : decode cX11_wed 181 = .ok (.iconst 5, 1) := by decide +kernel
theorem dX11_wed_182 : decode cX11_wed 182 = .ok (.iload_n 2, 1) := by decide +kernel
theorem dX11_wed_183 : decode cX11_wed 183 = .ok (.iastore, 1) := by decide +kernel
theorem dX11_wed_184 : decode cX11_wed 184 = .ok (.aload 4, 2) := by decide +kernel
theorem dX11_wed_186 : decode cX11_wed 186 = .ok (.bipush 6, 2) := by decide +kernel
theorem dX11_wed_188 : decode cX11_wed 188 = .ok (.iload_n 3, 1) := by decide +kernel
theorem dX11_wed_189 : decode cX11_wed 189 = .ok (.iastore, 1) := by decide +kernel
theorem dX11_wed_190 : decode cX11_wed 190 = .ok (.aload 4, 2) := by decide +kernel
theorem dX11_wed_192 : decode cX11_wed 192 = .ok (.bipush 7, 2) := by decide +kernel
theorem dX11_wed_194 : decode cX11_wed 194 = .ok (.iload_n 1, 1) := by decide +kernel
theorem dX11_wed_195 : decode cX11_wed 195 = .ok (.iastore, 1) := by decide +kernel
theorem dX11_wed_196 : decode cX11_wed 196 = .ok (.aload_n 0, 1) := by decide +kernel
theorem dX11_wed_197 : decode cX11_wed 197 = .ok (.dup, 1) := by decide +kernel
theorem dX11_wed_198 : decode cX11_wed 198 = .ok (.getfield 197, 3) := by decide +kernel
theorem dX11_wed_201 : decode cX11_wed 201 = .ok (.iconst 1, 1) := by decide +kernel
theorem dX11_wed_202 : decode cX11_wed 202 = .ok (.iadd, 1) := by decide +kernel
theorem dX11_wed_203 : decode cX11_wed 203 = .ok (.putfield 197, 3) := by decide +kernel
theorem dX11_wed_206 : decode cX11_wed 206 = .ok (.aload_n 0, 1) := by decide +kernel
theorem dX11_wed_207 : decode cX11_wed 207 = .ok (.getfield 197, 3) := by decide +kernel
theorem dX11_wed_210 : decode cX11_wed 210 = .ok (.iconst 1, 1) := by decide +kernel
theorem dX11_wed_211 : decode cX11_wed 211 = .ok (.isub, 1) := by decide +kernel
theorem dX11_wed_212 : decode cX11_wed 212 = .ok (.ireturn, 1) := by decide +kernel
theorem dX11_part_0 : decode cX11_part 0 = .ok (.aload_n 0, 1) := by decide +kernel
theorem dX11_part_1 : decode cX11_part 1 = .ok (.iload_n 1, 1) := by decide +kernel
theorem dX11_part_2 : decode cX11_part 2 = .ok (.invokevirtual 117, 3) := by decide +kernel
theorem dX11_part_5 : decode cX11_part 5 = .ok (.ifCond .eq 13, 3) := by decide +kernel
theorem dX11_part_8 : decode cX11_part 8 = .ok (.aload_n 0, 1) := by decide +kernel
theorem dX11_part_9 : decode cX11_part 9 = .ok (.getfield 36, 3) := by decide +kernel
theorem dX11_part_12 : decode cX11_part 12 = .ok (.iload_n 1, 1) := by decide +kernel
theorem dX11_part_13 : decode cX11_part 13 = .ok (.iaload, 1) := by decide +kernel
theorem dX11_part_14 : decode cX11_part 14 = .ok (.iconst (-1), 1) := by decide +kernel
theorem dX11_part_15 : decode cX11_part 15 = .ok (.if_icmp .ne 5, 3) := by decide +kernel
theorem dX11_part_18 : decode cX11_part 18 = .ok (.iconst 0, 1) := by decide +kernel
theorem dX11_part_19 : decode cX11_part 19 = .ok (.ireturn, 1) := by decide +kernel
theorem dX11_part_20 : decode cX11_part 20 = .ok (.aload_n 0, 1) := by decide +kernel
theorem dX11_part_21 : decode cX11_part 21 = .ok (.getfield 36, 3) := by decide +kernel
theorem dX11_part_24 : decode cX11_part 24 = .ok (.aload_n 0, 1) := by decide +kernel
theorem dX11_part_25 : decode cX11_part 25 = .ok (.getfield 36, 3) := by decide +kernel
theorem dX11_part_28 : decode cX11_part 28 = .ok (.iload_n 1, 1) := by decide +kernel
theorem dX11_part_29 : decode cX11_part 29 = .ok (.iaload, 1) := by decide +kernel
theorem dX11_part_30 : decode cX11_part 30 = .ok (.iconst (-1), 1) := by decide +kernel
theorem dX11_part_31 : decode cX11_part 31 = .ok (.iastore, 1) := by decide +kernel
theorem dX11_part_32 : decode cX11_part 32 = .ok (.aload_n 0, 1) := by decide +kernel
theorem dX11_part_33 : decode cX11_part 33 = .ok (.getfield 36, 3) := by decide +kernel
theorem dX11_part_36 : decode cX11_part 36 = .ok (.iload_n 1, 1) := by decide +kernel
theorem dX11_part_37 : decode cX11_part 37 = .ok (.iconst (-1), 1) := by decide +kernel
theorem dX11_part_38 : decode cX11_part 38 = .ok (.iastore, 1) := by decide +kernel
theorem dX11_part_39 : decode cX11_part 39 = .ok (.iconst 1, 1) := by decide +kernel
theorem dX11_part_40 : decode cX11_part 40 = .ok (.ireturn, 1) := by decide +kernel
theorem dX11_correct_0 : decode cX11_correct 0 = .ok (.iload_n 1, 1) := by decide +kernel
theorem dX11_correct_1 : decode cX11_correct 1 = .ok (.iconst 0, 1) := by decide +kernel
theorem dX11_correct_2 : decode cX11_correct 2 = .ok (.aload_n 0, 1) := by decide +kernel
theorem dX11_correct_3 : decode cX11_correct 3 = .ok (.getfield 197, 3) := by decide +kernel
theorem dX11_correct_6 : decode cX11_correct 6 = .ok (.iconst 1, 1) := by decide +kernel
theorem dX11_correct_7 : decode cX11_correct 7 = .ok (.isub, 1) := by decide +kernel
theorem dX11_correct_8 : decode cX11_correct 8 = .ok (.invokestatic 98, 3) := by decide +kernel
theorem dX11_correct_11 : decode cX11_correct 11 = .ok (.ifCond .eq 32, 3) := by decide +kernel
theorem dX11_correct_14 : decode cX11_correct 14 = .ok (.iload_n 2, 1) := by decide +kernel
theorem dX11_correct_15 : decode cX11_correct 15 = .ok (.iconst 0, 1) := by decide +kernel
theorem dX11_correct_16 : decode cX11_correct 16 = .ok (.iconst 4, 1) := by decide +kernel
theorem dX11_correct_17 : decode cX11_correct 17 = .ok (.invokestatic 98, 3) := by decide +kernel
theorem dX11_correct_20 : decode cX11_correct 20 = .ok (.ifCond .eq 23, 3) := by decide +kernel
theorem dX11_correct_23 : decode cX11_correct 23 = .ok (.iload_n 3, 1) := by decide +kernel
theorem dX11_correct_24 : decode cX11_correct 24 = .ok (.iconst 0, 1) := by decide +kernel
theorem dX11_correct_25 : decode cX11_correct 25 = .ok (.sipush 20000, 3) := by decide +kernel
theorem dX11_correct_28 : decode cX11_correct 28 = .ok (.invokestatic 98, 3) := by decide +kernel
theorem dX11_correct_31 : decode cX11_correct 31 = .ok (.ifCond .eq 12, 3) := by decide +kernel
theorem dX11_correct_34 : decode cX11_correct 34 = .ok (.aload_n 0, 1) := by decide +kernel
theorem dX11_correct_35 : decode cX11_correct 35 = .ok (.getfield 200, 3) := by decide +kernel
theorem dX11_correct_38 : decode cX11_correct 38 = .ok (.bipush 100, 2) := by decide +kernel
theorem dX11_correct_40 : decode cX11_correct 40 = .ok (.if_icmp .ne 5, 3) := by decide +kernel
theorem dX11_correct_43 : decode cX11_correct 43 = .ok (.iconst 0, 1) := by decide +kernel
theorem dX11_correct_44 : decode cX11_correct 44 = .ok (.ireturn, 1) := by decide +kernel
theorem dX11_correct_45 : decode cX11_correct 45 = .ok (.aload_n 0, 1) := by decide +kernel
theorem dX11_correct_46 : decode cX11_correct 46 = .ok (.getfield 82, 3) := by decide +kernel
theorem dX11_correct_49 : decode cX11_correct 49 = .ok (.aload_n 0, 1) := by decide +kernel
theorem dX11_correct_50 : decode cX11_correct 50 = .ok (.getfield 200, 3) := by decide +kernel
theorem dX11_correct_53 : decode cX11_correct 53 = .ok (.iload_n 1, 1) := by decide +kernel
theorem dX11_correct_54 : decode cX11_correct 54 = .ok (.iastore, 1) := by decide +kernel
theorem dX11_correct_55 : decode cX11_correct 55 = .ok (.aload_n 0, 1) := by decide +kernel
theorem dX11_correct_56 : decode cX11_correct 56 = .ok (.getfield 85, 3) := by decide +kernel
theorem dX11_correct_59 : decode cX11_correct 59 = .ok (.aload_n 0, 1) := by decide +kernel
theorem dX11_correct_60 : decode cX11_correct 60 = .ok (.getfield 200, 3) := by decide +kernel
theorem dX11_correct_63 : decode cX11_correct 63 = .ok (.iload_n 2, 1) := by decide +kernel
theorem dX11_correct_64 : decode cX11_correct 64 = .ok (.iastore, 1) := by decide +kernel
theorem dX11_correct_65 : decode cX11_correct 65 = .ok (.aload_n 0, 1) := by decide +kernel
theorem dX11_correct_66 : decode cX11_correct 66 = .ok (.getfield 88, 3) := by decide +kernel
theorem dX11_correct_69 : decode cX11_correct 69 = .ok (.aload_n 0, 1) := by decide +kernel
theorem dX11_correct_70 : decode cX11_correct 70 = .ok (.getfield 200, 3) := by decide +kernel
theorem dX11_correct_73 : decode cX11_correct 73 = .ok (.iload_n 3, 1) := by decide +kernel
theorem dX11_correct_74 : decode cX11_correct 74 = .ok (.iastore, 1) := by decide +kernel
theorem dX11_correct_75 : decode cX11_correct 75 = .ok (.aload_n 0, 1) := by decide +kernel
theorem dX11_correct_76 : decode cX11_correct 76 = .ok (.getfield 91, 3) := by decide +kernel
theorem dX11_correct_79 : decode cX11_correct 79 = .ok (.aload_n 0, 1) := by decide +kernel
theorem dX11_correct_80 : decode cX11_correct 80 = .ok (.getfield 200, 3) := by decide +kernel
theorem dX11_correct_83 : decode cX11_correct 83 = .ok (.aload_n 0, 1) := by decide +kernel
theorem dX11_correct_84 : decode cX11_correct 84 = .ok (.getfield 114, 3) := by decide +kernel
theorem dX11_correct_87 : decode cX11_correct 87 = .ok (.iastore, 1) := by decide +kernel
theorem dX11_correct_88 : decode cX11_correct 88 = .ok (.aload_n 0, 1) := by decide +kernel
theorem dX11_correct_89 : decode cX11_correct 89 = .ok (.dup, 1) := by decide +kernel
theorem dX11_correct_90 : decode cX11_correct 90 = .ok (.getfield 200, 3) := by decide +kernel
theorem dX11_correct_93 : decode cX11_correct 93 = .ok (.iconst 1, 1) := by decide +kernel
theorem dX11_correct_94 : decode cX11_correct 94 = .ok (.iadd, 1) := by decide +kernel
theorem dX11_correct_95 : decode cX11_correct 95 = .ok (.putfield 200, 3) := by decide +kernel
theorem dX11_correct_98 : decode cX11_correct 98 = .ok (.iconst 1, 1) := by decide +kernel
theorem dX11_correct_99 : decode cX11_correct 99 = .ok (.ireturn, 1) := by decide +kernel
theorem dX11_entry_0 : decode cX11_entry 0 = .ok (.iload_n 1, 1) := by decide +kernel
theorem dX11_entry_1 : decode cX11_entry 1 = .ok (.iconst 0, 1) := by decide +kernel
theorem dX11_entry_2 : decode cX11_entry 2 = .ok (.aload_n 0, 1) := by decide +kernel
theorem dX11_entry_3 : decode cX11_entry 3 = .ok (.getfield 197, 3) := by decide +kernel
theorem dX11_entry_6 : decode cX11_entry 6 = .ok (.iconst 1, 1) := by decide +kernel
theorem dX11_entry_7 : decode cX11_entry 7 = .ok (.isub, 1) := by decide +kernel
theorem dX11_entry_8 : decode cX11_entry 8 = .ok (.invokestatic 98, 3) := by decide +kernel
theorem dX11_entry_11 : decode cX11_entry 11 = .ok (.ifCond .eq 32, 3) := by decide +kernel
theorem dX11_entry_14 : decode cX11_entry 14 = .ok (.iload_n 2, 1) := by decide +kernel
theorem dX11_entry_15 : decode cX11_entry 15 = .ok (.iconst 0, 1) := by decide +kernel
theorem dX11_entry_16 : decode cX11_entry 16 = .ok (.bipush 7, 2) := by decide +kernel
theorem dX11_entry_18 : decode cX11_entry 18 = .ok (.invokestatic 98, 3) := by decide +kernel
theorem dX11_entry_21 : decode cX11_entry 21 = .ok (.ifCond .eq 22, 3) := by decide +kernel
theorem dX11_entry_24 : decode cX11_entry 24 = .ok (.iload_n 3, 1) := by decide +kernel
theorem dX11_entry_25 : decode cX11_entry 25 = .ok (.aload_n 0, 1) := by decide +kernel
theorem dX11_entry_26 : decode cX11_entry 26 = .ok (.getfield 79, 3) := by decide +kernel
theorem dX11_entry_29 : decode cX11_entry 29 = .ok (.iload_n 1, 1) := by decide +kernel
theorem dX11_entry_30 : decode cX11_entry 30 = .ok (.aaload, 1) := by decide +kernel
theorem dX11_entry_31 : decode cX11_entry 31 = .ok (.iconst 0, 1) := by decide +kernel
theorem dX11_entry_32 : decode cX11_entry 32 = .ok (.iaload, 1) := by decide +kernel
theorem dX11_entry_33 : decode cX11_entry 33 = .ok (.aload_n 0, 1) := by decide +kernel
theorem dX11_entry_34 : decode cX11_entry 34 = .ok (.getfield 114, 3) := by decide +kernel
theorem dX11_entry_37 : decode cX11_entry 37 = .ok (.invokestatic 98, 3) := by decide +kernel
theorem dX11_entry_40 : decode cX11_entry 40 = .ok (.ifCond .ne 5, 3) := by decide +kernel
theorem dX11_entry_43 : decode cX11_entry 43 = .ok (.iconst (-1), 1) := by decide +kernel
theorem dX11_entry_44 : decode cX11_entry 44 = .ok (.ireturn, 1) := by decide +kernel
theorem dX11_entry_45 : decode cX11_entry 45 = .ok (.aload_n 0, 1) := by decide +kernel
theorem dX11_entry_46 : decode cX11_entry 46 = .ok (.getfield 79, 3) := by decide +kernel
theorem dX11_entry_49 : decode cX11_entry 49 = .ok (.iload_n 1, 1) := by decide +kernel
theorem dX11_entry_50 : decode cX11_entry 50 = .ok (.aaload, 1) := by decide +kernel
theorem dX11_entry_51 : decode cX11_entry 51 = .ok (.iload_n 2, 1) := by decide +kernel
theorem dX11_entry_52 : decode cX11_entry 52 = .ok (.iaload, 1) := by decide +kernel
theorem dX11_entry_53 : decode cX11_entry 53 = .ok (.istore 4, 2) := by decide +kernel
theorem dX11_entry_55 : decode cX11_entry 55 = .ok (.iconst 0, 1) := by decide +kernel
theorem dX11_entry_56 : decode cX11_entry 56 = .ok (.istore 5, 2) := by decide +kernel
theorem dX11_entry_58 : decode cX11_entry 58 = .ok (.iload 5, 2) := by decide +kernel
theorem dX11_entry_60 : decode cX11_entry 60 = .ok (.aload_n 0, 1) := by decide +kernel
theorem dX11_entry_61 : decode cX11_entry 61 = .ok (.getfield 200, 3) := by decide +kernel
theorem dX11_entry_64 : decode cX11_entry 64 = .ok (.if_icmp .ge 51, 3) := by decide +kernel
theorem dX11_entry_67 : decode cX11_entry 67 = .ok (.aload_n 0, 1) := by decide +kernel
theorem dX11_entry_68 : decode cX11_entry 68 = .ok (.getfield 82, 3) := by decide +kernel
theorem dX11_entry_71 : decode cX11_entry 71 = .ok (.iload 5, 2) := by decide +kernel
theorem dX11_entry_73 : decode cX11_entry 73 = .ok (.iaload, 1) := by decide +kernel
theorem dX11_entry_74 : decode cX11_entry 74 = .ok (.iload_n 1, 1) := by decide +kernel
theorem dX11_entry_75 : decode cX11_entry 75 = .ok (.if_icmp .ne 34, 3) := by decide +kernel
theorem dX11_entry_78 : decode cX11_entry 78 = .ok (.aload_n 0, 1) := by decide +kernel
theorem dX11_entry_79 : decode cX11_entry 79 = .ok (.getfield 85, 3) := by decide +kernel
theorem dX11_entry_82 : decode cX11_entry 82 = .ok (.iload 5, 2) := by decide +kernel
theorem dX11_entry_84 : decode cX11_entry 84 = .ok (.iaload, 1) := by decide +kernel
theorem dX11_entry_85 : decode cX11_entry 85 = .ok (.iload_n 2, 1) := by decide +kernel
theorem dX11_entry_86 : decode cX11_entry 86 = .ok (.if_icmp .ne 23, 3) := by decide +kernel
theorem dX11_entry_89 : decode cX11_entry 89 = .ok (.aload_n 0, 1) := by decide +kernel
theorem dX11_entry_90 : decode cX11_entry 90 = .ok (.getfield 91, 3) := by decide +kernel
theorem dX11_entry_93 : decode cX11_entry 93 = .ok (.iload 5, 2) := by decide +kernel
theorem dX11_entry_95 : decode cX11_entry 95 = .ok (.iaload, 1) := by decide +kernel
theorem dX11_entry_96 : decode cX11_entry 96 = .ok (.iload_n 3, 1) := by decide +kernel
theorem dX11_entry_97 : decode cX11_entry 97 = .ok (.if_icmp .gt 12, 3) := by decide +kernel
theorem dX11_entry_100 : decode cX11_entry 100 = .ok (.aload_n 0, 1) := by decide +kernel
theorem dX11_entry_101 : decode cX11_entry 101 = .ok (.getfield 88, 3) := by decide +kernel
theorem dX11_entry_104 : decode cX11_entry 104 = .ok (.iload 5, 2) := by decide +kernel
theorem dX11_entry_106 : decode cX11_entry 106 = .ok (.iaload, 1) := by decide +kernel
theorem dX11_entry_107 : decode cX11_entry 107 = .ok (.istore 4, 2) := by decide +kernel
theorem dX11_entry_109 : decode cX11_entry 109 = .ok (.iinc 5 1, 3) := by decide +kernel
theorem dX11_entry_112 : decode cX11_entry 112 = .ok (.goto (-54), 3) := by decide +kernel
theorem dX11_entry_115 : decode cX11_entry 115 = .ok (.iload 4, 2) := by decide +kernel
theorem dX11_entry_117 : decode cX11_entry 117 = .ok (.ireturn, 1) := by decide +kernel
theorem dX11_nameOf_0 : decode cX11_nameOf 0 = .ok (.aload_n 0, 1) := by decide +kernel
theorem dX11_nameOf_1 : decode cX11_nameOf 1 = .ok (.getfield 79, 3) := by decide +kernel
theorem dX11_nameOf_4 : decode cX11_nameOf 4 = .ok (.iload_n 1, 1) := by decide +kernel
theorem dX11_nameOf_5 : decode cX11_nameOf 5 = .ok (.aaload, 1) := by decide +kernel
theorem dX11_nameOf_6 : decode cX11_nameOf 6 = .ok (.astore 4, 2) := by decide +kernel
theorem dX11_nameOf_8 : decode cX11_nameOf 8 = .ok (.aload_n 0, 1) := by decide +kernel
theorem dX11_nameOf_9 : decode cX11_nameOf 9 = .ok (.aload 4, 2) := by decide +kernel
theorem dX11_nameOf_11 : decode cX11_nameOf 11 = .ok (.iconst 5, 1) := by decide +kernel
theorem dX11_nameOf_12 : decode cX11_nameOf 12 = .ok (.iload_n 3, 1) := by decide +kernel
theorem dX11_nameOf_13 : decode cX11_nameOf 13 = .ok (.iadd, 1) := by decide +kernel
theorem dX11_nameOf_14 : decode cX11_nameOf 14 = .ok (.iaload, 1) := by decide +kernel
theorem dX11_nameOf_15 : decode cX11_nameOf 15 = .ok (.aload 4, 2) := by decide +kernel
theorem dX11_nameOf_17 : decode cX11_nameOf 17 = .ok (.iconst 0, 1) := by decide +kernel
theorem dX11_nameOf_18 : decode cX11_nameOf 18 = .ok (.iaload, 1) := by decide +kernel
theorem dX11_nameOf_19 : decode cX11_nameOf 19 = .ok (.bipush 7, 2) := by decide +kernel
theorem dX11_nameOf_21 : decode cX11_nameOf 21 = .ok (.invokevirtual 124, 3) := by decide +kernel
theorem dX11_nameOf_24 : decode cX11_nameOf 24 = .ok (.istore 5, 2) := by decide +kernel
theorem dX11_nameOf_26 : decode cX11_nameOf 26 = .ok (.iload 5, 2) := by decide +kernel
theorem dX11_nameOf_28 : decode cX11_nameOf 28 = .ok (.ifCond .ne 12, 3) := by decide +kernel
theorem dX11_nameOf_31 : decode cX11_nameOf 31 = .ok (.aload 4, 2) := by decide +kernel
theorem dX11_nameOf_33 : decode cX11_nameOf 33 = .ok (.iconst 1, 1) := by decide +kernel
theorem dX11_nameOf_34 : decode cX11_nameOf 34 = .ok (.iload_n 2, 1) := by decide +kernel
theorem dX11_nameOf_35 : decode cX11_nameOf 35 = .ok (.iadd, 1) := by decide +kernel
theorem dX11_nameOf_36 : decode cX11_nameOf 36 = .ok (.iaload, 1) := by decide +kernel
theorem dX11_nameOf_37 : decode cX11_nameOf 37 = .ok (.goto 29, 3) := by decide +kernel
theorem dX11_nameOf_40 : decode cX11_nameOf 40 = .ok (.iload 5, 2) := by decide +kernel
theorem dX11_nameOf_42 : decode cX11_nameOf 42 = .ok (.iconst 1, 1) := by decide +kernel
theorem dX11_nameOf_43 : decode cX11_nameOf 43 = .ok (.if_icmp .ne 10, 3) := by decide +kernel
theorem dX11_nameOf_46 : decode cX11_nameOf 46 = .ok (.aload 4, 2) := by decide +kernel
theorem dX11_nameOf_48 : decode cX11_nameOf 48 = .ok (.iconst 1, 1) := by decide +kernel
theorem dX11_nameOf_49 : decode cX11_nameOf 49 = .ok (.iaload, 1) := by decide +kernel
theorem dX11_nameOf_50 : decode cX11_nameOf 50 = .ok (.goto 16, 3) := by decide +kernel
theorem dX11_nameOf_53 : decode cX11_nameOf 53 = .ok (.sipush 10000, 3) := by decide +kernel
theorem dX11_nameOf_56 : decode cX11_nameOf 56 = .ok (.aload 4, 2) := by decide +kernel
theorem dX11_nameOf_58 : decode cX11_nameOf 58 = .ok (.iconst 1, 1) := by decide +kernel
theorem dX11_nameOf_59 : decode cX11_nameOf 59 = .ok (.iaload, 1) := by decide +kernel
theorem dX11_nameOf_60 : decode cX11_nameOf 60 = .ok (.imul, 1) := by decide +kernel
theorem dX11_nameOf_61 : decode cX11_nameOf 61 = .ok (.aload 4, 2) := by decide +kernel
theorem dX11_nameOf_63 : decode cX11_nameOf 63 = .ok (.iconst 2, 1) := by decide +kernel
theorem dX11_nameOf_64 : decode cX11_nameOf 64 = .ok (.iaload, 1) := by decide +kernel
theorem dX11_nameOf_65 : decode cX11_nameOf 65 = .ok (.iadd, 1) := by decide +kernel
theorem dX11_nameOf_66 : decode cX11_nameOf 66 = .ok (.ireturn, 1) := by decide +kernel
theorem dX11_name_0 : decode cX11_name 0 = .ok (.iload_n 1, 1) := by decide +kernel
theorem dX11_name_1 : decode cX11_name 1 = .ok (.iconst 0, 1) := by decide +kernel
theorem dX11_name_2 : decode cX11_name 2 = .ok (.aload_n 0, 1) := by decide +kernel
theorem dX11_name_3 : decode cX11_name 3 = .ok (.getfield 197, 3) := by decide +kernel
theorem dX11_name_6 : decode cX11_name 6 = .ok (.iconst 1, 1) := by decide +kernel
theorem dX11_name_7 : decode cX11_name 7 = .ok (.isub, 1) := by decide +kernel
theorem dX11_name_8 : decode cX11_name 8 = .ok (.invokestatic 98, 3) := by decide +kernel
theorem dX11_name_11 : decode cX11_name 11 = .ok (.ifCond .eq 31, 3) := by decide +kernel
theorem dX11_name_14 : decode cX11_name 14 = .ok (.iload_n 2, 1) := by decide +kernel
theorem dX11_name_15 : decode cX11_name 15 = .ok (.iconst 0, 1) := by decide +kernel
theorem dX11_name_16 : decode cX11_name 16 = .ok (.iconst 1, 1) := by decide +kernel
theorem dX11_name_17 : decode cX11_name 17 = .ok (.invokestatic 98, 3) := by decide +kernel
theorem dX11_name_20 : decode cX11_name 20 = .ok (.ifCond .eq 22, 3) := by decide +kernel
theorem dX11_name_23 : decode cX11_name 23 = .ok (.iload_n 3, 1) := by decide +kernel
theorem dX11_name_24 : decode cX11_name 24 = .ok (.iconst 0, 1) := by decide +kernel
theorem dX11_name_25 : decode cX11_name 25 = .ok (.iconst 1, 1) := by decide +kernel
theorem dX11_name_26 : decode cX11_name 26 = .ok (.invokestatic 98, 3) := by decide +kernel
theorem dX11_name_29 : decode cX11_name 29 = .ok (.ifCond .eq 13, 3) := by decide +kernel
theorem dX11_name_32 : decode cX11_name 32 = .ok (.aload_n 0, 1) := by decide +kernel
theorem dX11_name_33 : decode cX11_name 33 = .ok (.iload_n 1, 1) := by decide +kernel
theorem dX11_name_34 : decode cX11_name 34 = .ok (.iload_n 2, 1) := by decide +kernel
theorem dX11_name_35 : decode cX11_name 35 = .ok (.iload_n 3, 1) := by decide +kernel
theorem dX11_name_36 : decode cX11_name 36 = .ok (.invokevirtual 203, 3) := by decide +kernel
theorem dX11_name_39 : decode cX11_name 39 = .ok (.goto 4, 3) := by decide +kernel
theorem dX11_name_42 : decode cX11_name 42 = .ok (.iconst (-1), 1) := by decide +kernel
theorem dX11_name_43 : decode cX11_name 43 = .ok (.ireturn, 1) := by decide +kernel
theorem dX11_quarrel_0 : decode cX11_quarrel 0 = .ok (.iload_n 1, 1) := by decide +kernel
theorem dX11_quarrel_1 : decode cX11_quarrel 1 = .ok (.iconst 0, 1) := by decide +kernel
theorem dX11_quarrel_2 : decode cX11_quarrel 2 = .ok (.aload_n 0, 1) := by decide +kernel
theorem dX11_quarrel_3 : decode cX11_quarrel 3 = .ok (.getfield 197, 3) := by decide +kernel
theorem dX11_quarrel_6 : decode cX11_quarrel 6 = .ok (.iconst 1, 1) := by decide +kernel
theorem dX11_quarrel_7 : decode cX11_quarrel 7 = .ok (.isub, 1) := by decide +kernel
theorem dX11_quarrel_8 : decode cX11_quarrel 8 = .ok (.invokestatic 98, 3) := by decide +kernel
theorem dX11_quarrel_11 : decode cX11_quarrel 11 = .ok (.ifCond .ne 5, 3) := by decide +kernel
theorem dX11_quarrel_14 : decode cX11_quarrel 14 = .ok (.iconst 0, 1) := by decide +kernel
theorem dX11_quarrel_15 : decode cX11_quarrel 15 = .ok (.ireturn, 1) := by decide +kernel
theorem dX11_quarrel_16 : decode cX11_quarrel 16 = .ok (.aload_n 0, 1) := by decide +kernel
theorem dX11_quarrel_17 : decode cX11_quarrel 17 = .ok (.iload_n 1, 1) := by decide +kernel
theorem dX11_quarrel_18 : decode cX11_quarrel 18 = .ok (.iconst 0, 1) := by decide +kernel
theorem dX11_quarrel_19 : decode cX11_quarrel 19 = .ok (.iconst 0, 1) := by decide +kernel
theorem dX11_quarrel_20 : decode cX11_quarrel 20 = .ok (.invokevirtual 203, 3) := by decide +kernel
theorem dX11_quarrel_23 : decode cX11_quarrel 23 = .ok (.aload_n 0, 1) := by decide +kernel
theorem dX11_quarrel_24 : decode cX11_quarrel 24 = .ok (.iload_n 1, 1) := by decide +kernel
theorem dX11_quarrel_25 : decode cX11_quarrel 25 = .ok (.iconst 0, 1) := by decide +kernel
theorem dX11_quarrel_26 : decode cX11_quarrel 26 = .ok (.iconst 1, 1) := by decide +kernel
theorem dX11_quarrel_27 : decode cX11_quarrel 27 = .ok (.invokevirtual 203, 3) := by decide +kernel
theorem dX11_quarrel_30 : decode cX11_quarrel 30 = .ok (.if_icmp .ne 20, 3) := by decide +kernel
theorem dX11_quarrel_33 : decode cX11_quarrel 33 = .ok (.aload_n 0, 1) := by decide +kernel
theorem dX11_quarrel_34 : decode cX11_quarrel 34 = .ok (.iload_n 1, 1) := by decide +kernel
theorem dX11_quarrel_35 : decode cX11_quarrel 35 = .ok (.iconst 1, 1) := by decide +kernel
theorem dX11_quarrel_36 : decode cX11_quarrel 36 = .ok (.iconst 0, 1) := by decide +kernel
theorem dX11_quarrel_37 : decode cX11_quarrel 37 = .ok (.invokevirtual 203, 3) := by decide +kernel
theorem dX11_quarrel_40 : decode cX11_quarrel 40 = .ok (.aload_n 0, 1) := by decide +kernel
theorem dX11_quarrel_41 : decode cX11_quarrel 41 = .ok (.iload_n 1, 1) := by decide +kernel
theorem dX11_quarrel_42 : decode cX11_quarrel 42 = .ok (.iconst 1, 1) := by decide +kernel
theorem dX11_quarrel_43 : decode cX11_quarrel 43 = .ok (.iconst 1, 1) := by decide +kernel
theorem dX11_quarrel_44 : decode cX11_quarrel 44 = .ok (.invokevirtual 203, 3) := by decide +kernel
theorem dX11_quarrel_47 : decode cX11_quarrel 47 = .ok (.if_icmp .eq 7, 3) := by decide +kernel
theorem dX11_quarrel_50 : decode cX11_quarrel 50 = .ok (.iconst 1, 1) := by decide +kernel
theorem dX11_quarrel_51 : decode cX11_quarrel 51 = .ok (.goto 4, 3) := by decide +kernel
theorem dX11_quarrel_54 : decode cX11_quarrel 54 = .ok (.iconst 0, 1) := by decide +kernel
theorem dX11_quarrel_55 : decode cX11_quarrel 55 = .ok (.ireturn, 1) := by decide +kernel
theorem dX11_told_0 : decode cX11_told 0 = .ok (.aload_n 0, 1) := by decide +kernel
theorem dX11_told_1 : decode cX11_told 1 = .ok (.iload_n 1, 1) := by decide +kernel
theorem dX11_told_2 : decode cX11_told 2 = .ok (.invokevirtual 162, 3) := by decide +kernel
theorem dX11_told_5 : decode cX11_told 5 = .ok (.ifCond .ne 5, 3) := by decide +kernel
theorem dX11_told_8 : decode cX11_told 8 = .ok (.iconst (-1), 1) := by decide +kernel
theorem dX11_told_9 : decode cX11_told 9 = .ok (.ireturn, 1) := by decide +kernel
theorem dX11_told_10 : decode cX11_told 10 = .ok (.iload_n 2, 1) := by decide +kernel
theorem dX11_told_11 : decode cX11_told 11 = .ok (.tableswitch 67 0 4 #[33, 40, 47, 53, 60], 33) := by decide +kernel
theorem dX11_told_44 : decode cX11_told 44 = .ok (.aload_n 0, 1) := by decide +kernel
theorem dX11_told_45 : decode cX11_told 45 = .ok (.getfield 61, 3) := by decide +kernel
theorem dX11_told_48 : decode cX11_told 48 = .ok (.iload_n 1, 1) := by decide +kernel
theorem dX11_told_49 : decode cX11_told 49 = .ok (.iaload, 1) := by decide +kernel
theorem dX11_told_50 : decode cX11_told 50 = .ok (.ireturn, 1) := by decide +kernel
theorem dX11_told_51 : decode cX11_told 51 = .ok (.aload_n 0, 1) := by decide +kernel
theorem dX11_told_52 : decode cX11_told 52 = .ok (.getfield 58, 3) := by decide +kernel
theorem dX11_told_55 : decode cX11_told 55 = .ok (.iload_n 1, 1) := by decide +kernel
theorem dX11_told_56 : decode cX11_told 56 = .ok (.iaload, 1) := by decide +kernel
theorem dX11_told_57 : decode cX11_told 57 = .ok (.ireturn, 1) := by decide +kernel
theorem dX11_told_58 : decode cX11_told 58 = .ok (.aload_n 0, 1) := by decide +kernel
theorem dX11_told_59 : decode cX11_told 59 = .ok (.iload_n 1, 1) := by decide +kernel
theorem dX11_told_60 : decode cX11_told 60 = .ok (.invokevirtual 181, 3) := by decide +kernel
theorem dX11_told_63 : decode cX11_told 63 = .ok (.ireturn, 1) := by decide +kernel
theorem dX11_told_64 : decode cX11_told 64 = .ok (.aload_n 0, 1) := by decide +kernel
theorem dX11_told_65 : decode cX11_told 65 = .ok (.getfield 64, 3) := by decide +kernel
theorem dX11_told_68 : decode cX11_told 68 = .ok (.iload_n 1, 1) := by decide +kernel
theorem dX11_told_69 : decode cX11_told 69 = .ok (.iaload, 1) := by decide +kernel
theorem dX11_told_70 : decode cX11_told 70 = .ok (.ireturn, 1) := by decide +kernel
theorem dX11_told_71 : decode cX11_told 71 = .ok (.aload_n 0, 1) := by decide +kernel
theorem dX11_told_72 : decode cX11_told 72 = .ok (.getfield 67, 3) := by decide +kernel
theorem dX11_told_75 : decode cX11_told 75 = .ok (.iload_n 1, 1) := by decide +kernel
theorem dX11_told_76 : decode cX11_told 76 = .ok (.iaload, 1) := by decide +kernel
theorem dX11_told_77 : decode cX11_told 77 = .ok (.ireturn, 1) := by decide +kernel
theorem dX11_told_78 : decode cX11_told 78 = .ok (.iconst (-1), 1) := by decide +kernel
theorem dX11_told_79 : decode cX11_told 79 = .ok (.ireturn, 1) := by decide +kernel
theorem dX11_married_0 : decode cX11_married 0 = .ok (.aload_n 0, 1) := by decide +kernel
theorem dX11_married_1 : decode cX11_married 1 = .ok (.iload_n 1, 1) := by decide +kernel
theorem dX11_married_2 : decode cX11_married 2 = .ok (.invokevirtual 117, 3) := by decide +kernel
theorem dX11_married_5 : decode cX11_married 5 = .ok (.ifCond .eq 12, 3) := by decide +kernel
theorem dX11_married_8 : decode cX11_married 8 = .ok (.aload_n 0, 1) := by decide +kernel
theorem dX11_married_9 : decode cX11_married 9 = .ok (.getfield 36, 3) := by decide +kernel
theorem dX11_married_12 : decode cX11_married 12 = .ok (.iload_n 1, 1) := by decide +kernel
theorem dX11_married_13 : decode cX11_married 13 = .ok (.iaload, 1) := by decide +kernel
theorem dX11_married_14 : decode cX11_married 14 = .ok (.goto 4, 3) := by decide +kernel
theorem dX11_married_17 : decode cX11_married 17 = .ok (.iconst (-1), 1) := by decide +kernel
theorem dX11_married_18 : decode cX11_married 18 = .ok (.ireturn, 1) := by decide +kernel
theorem dX11_count_0 : decode cX11_count 0 = .ok (.iload_n 1, 1) := by decide +kernel
theorem dX11_count_1 : decode cX11_count 1 = .ok (.tableswitch 111 0 5 #[39, 44, 49, 54, 59, 64], 39) := by decide +kernel
theorem dX11_count_40 : decode cX11_count 40 = .ok (.aload_n 0, 1) := by decide +kernel
theorem dX11_count_41 : decode cX11_count 41 = .ok (.getfield 114, 3) := by decide +kernel
theorem dX11_count_44 : decode cX11_count 44 = .ok (.ireturn, 1) := by decide +kernel
theorem dX11_count_45 : decode cX11_count 45 = .ok (.aload_n 0, 1) := by decide +kernel
theorem dX11_count_46 : decode cX11_count 46 = .ok (.getfield 94, 3) := by decide +kernel
theorem dX11_count_49 : decode cX11_count 49 = .ok (.ireturn, 1) := by decide +kernel
theorem dX11_count_50 : decode cX11_count 50 = .ok (.aload_n 0, 1) := by decide +kernel
theorem dX11_count_51 : decode cX11_count 51 = .ok (.getfield 102, 3) := by decide +kernel
theorem dX11_count_54 : decode cX11_count 54 = .ok (.ireturn, 1) := by decide +kernel
theorem dX11_count_55 : decode cX11_count 55 = .ok (.aload_n 0, 1) := by decide +kernel
theorem dX11_count_56 : decode cX11_count 56 = .ok (.getfield 197, 3) := by decide +kernel
theorem dX11_count_59 : decode cX11_count 59 = .ok (.ireturn, 1) := by decide +kernel
theorem dX11_count_60 : decode cX11_count 60 = .ok (.aload_n 0, 1) := by decide +kernel
theorem dX11_count_61 : decode cX11_count 61 = .ok (.getfield 178, 3) := by decide +kernel
theorem dX11_count_64 : decode cX11_count 64 = .ok (.ireturn, 1) := by decide +kernel
theorem dX11_count_65 : decode cX11_count 65 = .ok (.iconst 0, 1) := by decide +kernel
theorem dX11_count_66 : decode cX11_count 66 = .ok (.istore_n 2, 1) := by decide +kernel
theorem dX11_count_67 : decode cX11_count 67 = .ok (.iconst 0, 1) := by decide +kernel
theorem dX11_count_68 : decode cX11_count 68 = .ok (.istore_n 3, 1) := by decide +kernel
theorem dX11_count_69 : decode cX11_count 69 = .ok (.iload_n 3, 1) := by decide +kernel
theorem dX11_count_70 : decode cX11_count 70 = .ok (.aload_n 0, 1) := by decide +kernel
theorem dX11_count_71 : decode cX11_count 71 = .ok (.getfield 102, 3) := by decide +kernel
theorem dX11_count_74 : decode cX11_count 74 = .ok (.if_icmp .ge 36, 3) := by decide +kernel
theorem dX11_count_77 : decode cX11_count 77 = .ok (.iload_n 2, 1) := by decide +kernel
theorem dX11_count_78 : decode cX11_count 78 = .ok (.aload_n 0, 1) := by decide +kernel
theorem dX11_count_79 : decode cX11_count 79 = .ok (.getfield 61, 3) := by decide +kernel
theorem dX11_count_82 : decode cX11_count 82 = .ok (.iload_n 3, 1) := by decide +kernel
theorem dX11_count_83 : decode cX11_count 83 = .ok (.iaload, 1) := by decide +kernel
theorem dX11_count_84 : decode cX11_count 84 = .ok (.ifCond .ne 17, 3) := by decide +kernel
theorem dX11_count_87 : decode cX11_count 87 = .ok (.aload_n 0, 1) := by decide +kernel
theorem dX11_count_88 : decode cX11_count 88 = .ok (.getfield 64, 3) := by decide +kernel
theorem dX11_count_91 : decode cX11_count 91 = .ok (.iload_n 3, 1) := by decide +kernel
theorem dX11_count_92 : decode cX11_count 92 = .ok (.iaload, 1) := by decide +kernel
theorem dX11_count_93 : decode cX11_count 93 = .ok (.iconst (-1), 1) := by decide +kernel
theorem dX11_count_94 : decode cX11_count 94 = .ok (.if_icmp .eq 7, 3) := by decide +kernel
theorem dX11_count_97 : decode cX11_count 97 = .ok (.iconst 1, 1) := by decide +kernel
theorem dX11_count_98 : decode cX11_count 98 = .ok (.goto 4, 3) := by decide +kernel
theorem dX11_count_101 : decode cX11_count 101 = .ok (.iconst 0, 1) := by decide +kernel
theorem dX11_count_102 : decode cX11_count 102 = .ok (.iadd, 1) := by decide +kernel
theorem dX11_count_103 : decode cX11_count 103 = .ok (.istore_n 2, 1) := by decide +kernel
theorem dX11_count_104 : decode cX11_count 104 = .ok (.iinc 3 1, 3) := by decide +kernel
theorem dX11_count_107 : decode cX11_count 107 = .ok (.goto (-38), 3) := by decide +kernel
theorem dX11_count_110 : decode cX11_count 110 = .ok (.iload_n 2, 1) := by decide +kernel
theorem dX11_count_111 : decode cX11_count 111 = .ok (.ireturn, 1) := by decide +kernel
theorem dX11_count_112 : decode cX11_count 112 = .ok (.iconst (-1), 1) := by decide +kernel
theorem dX11_count_113 : decode cX11_count 113 = .ok (.ireturn, 1) := by decide +kernel
