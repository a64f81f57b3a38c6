theorem dX9_init_0 : decode cX9_init 0 = .ok (.aload_n 0, 1) := by decide +kernel
theorem dX9_init_1 : decode cX9_init 1 = .ok (.invokespecial 1, 3) := by decide +kernel
theorem dX9_init_4 : decode cX9_init 4 = .ok (.aload_n 0, 1) := by decide +kernel
theorem dX9_init_5 : decode cX9_init 5 = .ok (.bipush 80, 2) := by decide +kernel
theorem dX9_init_7 : decode cX9_init 7 = .ok (.newarray .int, 2) := by decide +kernel
theorem dX9_init_9 : decode cX9_init 9 = .ok (.putfield 7, 3) := by decide +kernel
theorem dX9_init_12 : decode cX9_init 12 = .ok (.aload_n 0, 1) := by decide +kernel
theorem dX9_init_13 : decode cX9_init 13 = .ok (.bipush 120, 2) := by decide +kernel
theorem dX9_init_15 : decode cX9_init 15 = .ok (.newarray .int, 2) := by decide +kernel
theorem dX9_init_17 : decode cX9_init 17 = .ok (.putfield 13, 3) := by decide +kernel
theorem dX9_init_20 : decode cX9_init 20 = .ok (.aload_n 0, 1) := by decide +kernel
theorem dX9_init_21 : decode cX9_init 21 = .ok (.bipush 120, 2) := by decide +kernel
theorem dX9_init_23 : decode cX9_init 23 = .ok (.newarray .int, 2) := by decide +kernel
theorem dX9_init_25 : decode cX9_init 25 = .ok (.putfield 16, 3) := by decide +kernel
theorem dX9_init_28 : decode cX9_init 28 = .ok (.aload_n 0, 1) := by decide +kernel
theorem dX9_init_29 : decode cX9_init 29 = .ok (.bipush 120, 2) := by decide +kernel
theorem dX9_init_31 : decode cX9_init 31 = .ok (.newarray .int, 2) := by decide +kernel
theorem dX9_init_33 : decode cX9_init 33 = .ok (.putfield 19, 3) := by decide +kernel
theorem dX9_init_36 : decode cX9_init 36 = .ok (.aload_n 0, 1) := by decide +kernel
theorem dX9_init_37 : decode cX9_init 37 = .ok (.bipush 120, 2) := by decide +kernel
theorem dX9_init_39 : decode cX9_init 39 = .ok (.newarray .long, 2) := by decide +kernel
theorem dX9_init_41 : decode cX9_init 41 = .ok (.putfield 22, 3) := by decide +kernel
theorem dX9_init_44 : decode cX9_init 44 = .ok (.aload_n 0, 1) := by decide +kernel
theorem dX9_init_45 : decode cX9_init 45 = .ok (.bipush 120, 2) := by decide +kernel
theorem dX9_init_47 : decode cX9_init 47 = .ok (.newarray .int, 2) := by decide +kernel
theorem dX9_init_49 : decode cX9_init 49 = .ok (.putfield 26, 3) := by decide +kernel
theorem dX9_init_52 : decode cX9_init 52 = .ok (.aload_n 0, 1) := by decide +kernel
theorem dX9_init_53 : decode cX9_init 53 = .ok (.bipush 120, 2) := by decide +kernel
theorem dX9_init_55 : decode cX9_init 55 = .ok (.newarray .int, 2) := by decide +kernel
theorem dX9_init_57 : decode cX9_init 57 = .ok (.putfield 29, 3) := by decide +kernel
theorem dX9_init_60 : decode cX9_init 60 = .ok (.aload_n 0, 1) := by decide +kernel
theorem dX9_init_61 : decode cX9_init 61 = .ok (.bipush 64, 2) := by decide +kernel
theorem dX9_init_63 : decode cX9_init 63 = .ok (.newarray .int, 2) := by decide +kernel
theorem dX9_init_65 : decode cX9_init 65 = .ok (.putfield 32, 3) := by decide +kernel
theorem dX9_init_68 : decode cX9_init 68 = .ok (.aload_n 0, 1) := by decide +kernel
theorem dX9_init_69 : decode cX9_init 69 = .ok (.bipush 64, 2) := by decide +kernel
theorem dX9_init_71 : decode cX9_init 71 = .ok (.newarray .int, 2) := by decide +kernel
theorem dX9_init_73 : decode cX9_init 73 = .ok (.putfield 35, 3) := by decide +kernel
theorem dX9_init_76 : decode cX9_init 76 = .ok (.aload_n 0, 1) := by decide +kernel
theorem dX9_init_77 : decode cX9_init 77 = .ok (.bipush 64, 2) := by decide +kernel
theorem dX9_init_79 : decode cX9_init 79 = .ok (.newarray .int, 2) := by decide +kernel
theorem dX9_init_81 : decode cX9_init 81 = .ok (.putfield 38, 3) := by decide +kernel
theorem dX9_init_84 : decode cX9_init 84 = .ok (.aload_n 0, 1) := by decide +kernel
theorem dX9_init_85 : decode cX9_init 85 = .ok (.sipush 700, 3) := by decide +kernel
theorem dX9_init_88 : decode cX9_init 88 = .ok (.newarray .int, 2) := by decide +kernel
theorem dX9_init_90 : decode cX9_init 90 = .ok (.putfield 41, 3) := by decide +kernel
theorem dX9_init_93 : decode cX9_init 93 = .ok (.aload_n 0, 1) := by decide +kernel
theorem dX9_init_94 : decode cX9_init 94 = .ok (.sipush 700, 3) := by decide +kernel
theorem dX9_init_97 : decode cX9_init 97 = .ok (.newarray .int, 2) := by decide +kernel
theorem dX9_init_99 : decode cX9_init 99 = .ok (.putfield 44, 3) := by decide +kernel
theorem dX9_init_102 : decode cX9_init 102 = .ok (.aload_n 0, 1) := by decide +kernel
theorem dX9_init_103 : decode cX9_init 103 = .ok (.sipush 700, 3) := by decide +kernel
theorem dX9_init_106 : decode cX9_init 106 = .ok (.newarray .long, 2) := by decide +kernel
theorem dX9_init_108 : decode cX9_init 108 = .ok (.putfield 47, 3) := by decide +kernel
theorem dX9_init_111 : decode cX9_init 111 = .ok (.aload_n 0, 1) := by decide +kernel
theorem dX9_init_112 : decode cX9_init 112 = .ok (.sipush 700, 3) := by decide +kernel
theorem dX9_init_115 : decode cX9_init 115 = .ok (.newarray .int, 2) := by decide +kernel
theorem dX9_init_117 : decode cX9_init 117 = .ok (.putfield 50, 3) := by decide +kernel
theorem dX9_init_120 : decode cX9_init 120 = .ok (.aload_n 0, 1) := by decide +kernel
theorem dX9_init_121 : decode cX9_init 121 = .ok (.sipush 700, 3) := by decide +kernel
theorem dX9_init_124 : decode cX9_init 124 = .ok (.newarray .int, 2) := by decide +kernel
theorem dX9_init_126 : decode cX9_init 126 = .ok (.putfield 53, 3) := by decide +kernel
theorem dX9_init_129 : decode cX9_init 129 = .ok (.aload_n 0, 1) := by decide +kernel
theorem dX9_init_130 : decode cX9_init 130 = .ok (.sipush 700, 3) := by decide +kernel
theorem dX9_init_133 : decode cX9_init 133 = .ok (.newarray .int, 2) := by decide +kernel
theorem dX9_init_135 : decode cX9_init 135 = .ok (.putfield 56, 3) := by decide +kernel
theorem dX9_init_138 : decode cX9_init 138 = .ok (.aload_n 0, 1) := by decide +kernel
theorem dX9_init_139 : decode cX9_init 139 = .ok (.sipush 2100, 3) := by decide +kernel
theorem dX9_init_142 : decode cX9_init 142 = .ok (.newarray .int, 2) := by decide +kernel
theorem dX9_init_144 : decode cX9_init 144 = .ok (.putfield 59, 3) := by decide +kernel
theorem dX9_init_147 : decode cX9_init 147 = .ok (.aload_n 0, 1) := by decide +kernel
theorem dX9_init_148 : decode cX9_init 148 = .ok (.sipush 700, 3) := by decide +kernel
theorem dX9_init_151 : decode cX9_init 151 = .ok (.newarray .int, 2) := by decide +kernel
theorem dX9_init_153 : decode cX9_init 153 = .ok (.putfield 62, 3) := by decide +kernel
theorem dX9_init_156 : decode cX9_init 156 = .ok (.aload_n 0, 1) := by decide +kernel
theorem dX9_init_157 : decode cX9_init 157 = .ok (.sipush 700, 3) := by decide +kernel
theorem dX9_init_160 : decode cX9_init 160 = .ok (.newarray .int, 2) := by decide +kernel
theorem dX9_init_162 : decode cX9_init 162 = .ok (.putfield 65, 3) := by decide +kernel
theorem dX9_init_165 : decode cX9_init 165 = .ok (.aload_n 0, 1) := by decide +kernel
theorem dX9_init_166 : decode cX9_init 166 = .ok (.sipush 201, 3) := by decide +kernel
theorem dX9_init_169 : decode cX9_init 169 = .ok (.newarray .int, 2) := by decide +kernel
theorem dX9_init_171 : decode cX9_init 171 = .ok (.putfield 68, 3) := by decide +kernel
theorem dX9_init_174 : decode cX9_init 174 = .ok (.aload_n 0, 1) := by decide +kernel
theorem dX9_init_175 : decode cX9_init 175 = .ok (.sipush 201, 3) := by decide +kernel
theorem dX9_init_178 : decode cX9_init 178 = .ok (.newarray .int, 2) := by decide +kernel
theorem dX9_init_180 : decode cX9_init 180 = .ok (.putfield 71, 3) := by decide +kernel
theorem dX9_init_183 : decode cX9_init 183 = .ok (.aload_n 0, 1) := by decide +kernel
theorem dX9_init_184 : decode cX9_init 184 = .ok (.sipush 201, 3) := by decide +kernel
theorem dX9_init_187 : decode cX9_init 187 = .ok (.newarray .int, 2) := by decide +kernel
theorem dX9_init_189 : decode cX9_init 189 = .ok (.putfield 74, 3) := by decide +kernel
theorem dX9_init_192 : decode cX9_init 192 = .ok (.aload_n 0, 1) := by decide +kernel
theorem dX9_init_193 : decode cX9_init 193 = .ok (.sipush 400, 3) := by decide +kernel
theorem dX9_init_196 : decode cX9_init 196 = .ok (.newarray .int, 2) := by decide +kernel
theorem dX9_init_198 : decode cX9_init 198 = .ok (.putfield 77, 3) := by decide +kernel
theorem dX9_init_201 : decode cX9_init 201 = .ok (.aload_n 0, 1) := by decide +kernel
theorem dX9_init_202 : decode cX9_init 202 = .ok (.sipush 1300, 3) := by decide +kernel
theorem dX9_init_205 : decode cX9_init 205 = .ok (.newarray .int, 2) := by decide +kernel
theorem dX9_init_207 : decode cX9_init 207 = .ok (.putfield 80, 3) := by decide +kernel
theorem dX9_init_210 : decode cX9_init 210 = .ok (.aload_n 0, 1) := by decide +kernel
theorem dX9_init_211 : decode cX9_init 211 = .ok (.sipush 1300, 3) := by decide +kernel
theorem dX9_init_214 : decode cX9_init 214 = .ok (.newarray .int, 2) := by decide +kernel
theorem dX9_init_216 : decode cX9_init 216 = .ok (.putfield 83, 3) := by decide +kernel
theorem dX9_init_219 : decode cX9_init 219 = .ok (.aload_n 0, 1) := by decide +kernel
theorem dX9_init_220 : decode cX9_init 220 = .ok (.sipush 1300, 3) := by decide +kernel
theorem dX9_init_223 : decode cX9_init 223 = .ok (.newarray .int, 2) := by decide +kernel
theorem dX9_init_225 : decode cX9_init 225 = .ok (.putfield 86, 3) := by decide +kernel
theorem dX9_init_228 : decode cX9_init 228 = .ok (.return_, 1) := by decide +kernel
theorem dX9_thrown_0 : decode cX9_thrown 0 = .ok (.aload_n 0, 1) := by decide +kernel
theorem dX9_thrown_1 : decode cX9_thrown 1 = .ok (.getfield 89, 3) := by decide +kernel
theorem dX9_thrown_4 : decode cX9_thrown 4 = .ok (.ireturn, 1) := by decide +kernel
theorem dX9_text_0 : decode cX9_text 0 = .ok (.aload_n 0, 1) := by decide +kernel
theorem dX9_text_1 : decode cX9_text 1 = .ok (.iload_n 2, 1) := by decide +kernel
theorem dX9_text_2 : decode cX9_text 2 = .ok (.iconst 1, 1) := by decide +kernel
theorem dX9_text_3 : decode cX9_text 3 = .ok (.if_icmp .lt 8, 3) := by decide +kernel
theorem dX9_text_6 : decode cX9_text 6 = .ok (.iload_n 2, 1) := by decide +kernel
theorem dX9_text_7 : decode cX9_text 7 = .ok (.iconst 4, 1) := by decide +kernel
theorem dX9_text_8 : decode cX9_text 8 = .ok (.if_icmp .le 7, 3) := by decide +kernel
theorem dX9_text_11 : decode cX9_text 11 = .ok (.iconst 1, 1) := by decide +kernel
theorem dX9_text_12 : decode cX9_text 12 = .ok (.goto 19, 3) := by decide +kernel
theorem dX9_text_15 : decode cX9_text 15 = .ok (.aload_n 0, 1) := by decide +kernel
theorem dX9_text_16 : decode cX9_text 16 = .ok (.getfield 93, 3) := by decide +kernel
theorem dX9_text_19 : decode cX9_text 19 = .ok (.iload_n 2, 1) := by decide +kernel
theorem dX9_text_20 : decode cX9_text 20 = .ok (.iadd, 1) := by decide +kernel
theorem dX9_text_21 : decode cX9_text 21 = .ok (.bipush 80, 2) := by decide +kernel
theorem dX9_text_23 : decode cX9_text 23 = .ok (.if_icmp .le 7, 3) := by decide +kernel
theorem dX9_text_26 : decode cX9_text 26 = .ok (.iconst 2, 1) := by decide +kernel
theorem dX9_text_27 : decode cX9_text 27 = .ok (.goto 4, 3) := by decide +kernel
theorem dX9_text_30 : decode cX9_text 30 = .ok (.iconst 0, 1) := by decide +kernel
theorem dX9_text_31 : decode cX9_text 31 = .ok (.putfield 89, 3) := by decide +kernel
theorem dX9_text_34 : decode cX9_text 34 = .ok (.iload_n 2, 1) := by decide +kernel
theorem dX9_text_35 : decode cX9_text 35 = .ok (.iconst 1, 1) := by decide +kernel
theorem dX9_text_36 : decode cX9_text 36 = .ok (.isub, 1) := by decide +kernel
theorem dX9_text_37 : decode cX9_text 37 = .ok (.istore_n 3, 1) := by decide +kernel
theorem dX9_text_38 : decode cX9_text 38 = .ok (.iload_n 3, 1) := by decide +kernel
theorem dX9_text_39 : decode cX9_text 39 = .ok (.ifCond .lt 45, 3) := by decide +kernel
theorem dX9_text_42 : decode cX9_text 42 = .ok (.aload_n 0, 1) := by decide +kernel
theorem dX9_text_43 : decode cX9_text 43 = .ok (.getfield 89, 3) := by decide +kernel
theorem dX9_text_46 : decode cX9_text 46 = .ok (.ifCond .ne 38, 3) := by decide +kernel
theorem dX9_text_49 : decode cX9_text 49 = .ok (.aload_n 0, 1) := by decide +kernel
theorem dX9_text_50 : decode cX9_text 50 = .ok (.getfield 7, 3) := by decide +kernel
theorem dX9_text_53 : decode cX9_text 53 = .ok (.aload_n 0, 1) := by decide +kernel
theorem dX9_text_54 : decode cX9_text 54 = .ok (.getfield 93, 3) := by decide +kernel
theorem dX9_text_57 : decode cX9_text 57 = .ok (.iload_n 1, 1) := by decide +kernel
theorem dX9_text_58 : decode cX9_text 58 = .ok (.bipush 8, 2) := by decide +kernel
theorem dX9_text_60 : decode cX9_text 60 = .ok (.iload_n 3, 1) := by decide +kernel
theorem dX9_text_61 : decode cX9_text 61 = .ok (.imul, 1) := by decide +kernel
theorem dX9_text_62 : decode cX9_text 62 = .ok (.ishr, 1) := by decide +kernel
theorem dX9_text_63 : decode cX9_text 63 = .ok (.sipush 255, 3) := by decide +kernel
theorem dX9_text_66 : decode cX9_text 66 = .ok (.iand, 1) := by decide +kernel
theorem dX9_text_67 : decode cX9_text 67 = .ok (.iastore, 1) := by decide +kernel
theorem dX9_text_68 : decode cX9_text 68 = .ok (.aload_n 0, 1) := by decide +kernel
theorem dX9_text_69 : decode cX9_text 69 = .ok (.dup, 1) := by decide +kernel
theorem dX9_text_70 : decode cX9_text 70 = .ok (.getfield 93, 3) := by decide +kernel
theorem dX9_text_73 : decode cX9_text 73 = .ok (.iconst 1, 1) := by decide +kernel
theorem dX9_text_74 : decode cX9_text 74 = .ok (.iadd, 1) := by decide +kernel
theorem dX9_text_75 : decode cX9_text 75 = .ok (.putfield 93, 3) := by decide +kernel
theorem dX9_text_78 : decode cX9_text 78 = .ok (.iinc 3 (-1), 3) := by decide +kernel
theorem dX9_text_81 : decode cX9_text 81 = .ok (.goto (-43), 3) := by decide +kernel
theorem dX9_text_84 : decode cX9_text 84 = .ok (.aload_n 0, 1) := by decide +kernel
theorem dX9_text_85 : decode cX9_text 85 = .ok (.getfield 93, 3) := by decide +kernel
theorem dX9_text_88 : decode cX9_text 88 = .ok (.ireturn, 1) := by decide +kernel
theorem dX9_wrong_0 : decode cX9_wrong 0 = .ok (.aload_n 0, 1) := by decide +kernel
theorem dX9_wrong_1 : decode cX9_wrong 1 = .ok (.aload_n 0, 1) := by decide +kernel
theorem dX9_wrong_2 : decode cX9_wrong 2 = .ok (.getfield 96, 3) := by decide +kernel
theorem dX9_wrong_5 : decode cX9_wrong 5 = .ok (.ifCond .ne 9, 3) := by decide +kernel
theorem dX9_wrong_8 : decode cX9_wrong 8 = .ok (.iconst (-1), 1) := by decide +kernel
theorem dX9_wrong_9 : decode cX9_wrong 9 = .ok (.iload_n 1, 1) := by decide +kernel
theorem dX9_wrong_10 : decode cX9_wrong 10 = .ok (.isub, 1) := by decide +kernel
theorem dX9_wrong_11 : decode cX9_wrong 11 = .ok (.goto 7, 3) := by decide +kernel
theorem dX9_wrong_14 : decode cX9_wrong 14 = .ok (.aload_n 0, 1) := by decide +kernel
theorem dX9_wrong_15 : decode cX9_wrong 15 = .ok (.getfield 96, 3) := by decide +kernel
theorem dX9_wrong_18 : decode cX9_wrong 18 = .ok (.putfield 96, 3) := by decide +kernel
theorem dX9_wrong_21 : decode cX9_wrong 21 = .ok (.return_, 1) := by decide +kernel
theorem dX9_bit_0 : decode cX9_bit 0 = .ok (.aload_n 0, 1) := by decide +kernel
theorem dX9_bit_1 : decode cX9_bit 1 = .ok (.getfield 96, 3) := by decide +kernel
theorem dX9_bit_4 : decode cX9_bit 4 = .ok (.ifCond .ge 5, 3) := by decide +kernel
theorem dX9_bit_7 : decode cX9_bit 7 = .ok (.iconst 0, 1) := by decide +kernel
theorem dX9_bit_8 : decode cX9_bit 8 = .ok (.ireturn, 1) := by decide +kernel
theorem dX9_bit_9 : decode cX9_bit 9 = .ok (.aload_n 0, 1) := by decide +kernel
theorem dX9_bit_10 : decode cX9_bit 10 = .ok (.getfield 99, 3) := by decide +kernel
theorem dX9_bit_13 : decode cX9_bit 13 = .ok (.bipush 8, 2) := by decide +kernel
theorem dX9_bit_15 : decode cX9_bit 15 = .ok (.aload_n 0, 1) := by decide +kernel
theorem dX9_bit_16 : decode cX9_bit 16 = .ok (.getfield 93, 3) := by decide +kernel
theorem dX9_bit_19 : decode cX9_bit 19 = .ok (.imul, 1) := by decide +kernel
theorem dX9_bit_20 : decode cX9_bit 20 = .ok (.if_icmp .lt 16, 3) := by decide +kernel
theorem dX9_bit_23 : decode cX9_bit 23 = .ok (.aload_n 0, 1) := by decide +kernel
theorem dX9_bit_24 : decode cX9_bit 24 = .ok (.bipush 8, 2) := by decide +kernel
theorem dX9_bit_26 : decode cX9_bit 26 = .ok (.aload_n 0, 1) := by decide +kernel
theorem dX9_bit_27 : decode cX9_bit 27 = .ok (.getfield 93, 3) := by decide +kernel
theorem dX9_bit_30 : decode cX9_bit 30 = .ok (.imul, 1) := by decide +kernel
theorem dX9_bit_31 : decode cX9_bit 31 = .ok (.invokevirtual 102, 3) := by decide +kernel
theorem dX9_bit_34 : decode cX9_bit 34 = .ok (.iconst 0, 1) := by decide +kernel
theorem dX9_bit_35 : decode cX9_bit 35 = .ok (.ireturn, 1) := by decide +kernel
theorem dX9_bit_36 : decode cX9_bit 36 = .ok (.aload_n 0, 1) := by decide +kernel
theorem dX9_bit_37 : decode cX9_bit 37 = .ok (.getfield 7, 3) := by decide +kernel
theorem dX9_bit_40 : decode cX9_bit 40 = .ok (.aload_n 0, 1) := by decide +kernel
theorem dX9_bit_41 : decode cX9_bit 41 = .ok (.getfield 99, 3) := by decide +kernel
theorem dX9_bit_44 : decode cX9_bit 44 = .ok (.bipush 8, 2) := by decide +kernel
theorem dX9_bit_46 : decode cX9_bit 46 = .ok (.idiv, 1) := by decide +kernel
theorem dX9_bit_47 : decode cX9_bit 47 = .ok (.iaload, 1) := by decide +kernel
theorem dX9_bit_48 : decode cX9_bit 48 = .ok (.bipush 7, 2) := by decide +kernel
theorem dX9_bit_50 : decode cX9_bit 50 = .ok (.aload_n 0, 1) := by decide +kernel
theorem dX9_bit_51 : decode cX9_bit 51 = .ok (.getfield 99, 3) := by decide +kernel
theorem dX9_bit_54 : decode cX9_bit 54 = .ok (.bipush 8, 2) := by decide +kernel
theorem dX9_bit_56 : decode cX9_bit 56 = .ok (.irem, 1) := by decide +kernel
theorem dX9_bit_57 : decode cX9_bit 57 = .ok (.isub, 1) := by decide +kernel
theorem dX9_bit_58 : decode cX9_bit 58 = .ok (.ishr, 1) := by decide +kernel
theorem dX9_bit_59 : decode cX9_bit 59 = .ok (.iconst 1, 1) := by decide +kernel
theorem dX9_bit_60 : decode cX9_bit 60 = .ok (.iand, 1) := by decide +kernel
theorem dX9_bit_61 : decode cX9_bit 61 = .ok (.istore_n 1, 1) := by decide +kernel
theorem dX9_bit_62 : decode cX9_bit 62 = .ok (.aload_n 0, 1) := by decide +kernel
theorem dX9_bit_63 : decode cX9_bit 63 = .ok (.dup, 1) := by decide +kernel
theorem dX9_bit_64 : decode cX9_bit 64 = .ok (.getfield 99, 3) := by decide +kernel
theorem dX9_bit_67 : decode cX9_bit 67 = .ok (.iconst 1, 1) := by decide +kernel
theorem dX9_bit_68 : decode cX9_bit 68 = .ok (.iadd, 1) := by decide +kernel
theorem dX9_bit_69 : decode cX9_bit 69 = .ok (.putfield 99, 3) := by decide +kernel
theorem dX9_bit_72 : decode cX9_bit 72 = .ok (.iload_n 1, 1) := by decide +kernel
theorem dX9_bit_73 : decode cX9_bit 73 = .ok (.ireturn, 1) := by decide +kernel
theorem dX9_bits_0 : decode cX9_bits 0 = .ok (.iconst 0, 1) := by decide +kernel
theorem dX9_bits_1 : decode cX9_bits 1 = .ok (.istore_n 2, 1) := by decide +kernel
theorem dX9_bits_2 : decode cX9_bits 2 = .ok (.iconst 0, 1) := by decide +kernel
theorem dX9_bits_3 : decode cX9_bits 3 = .ok (.istore_n 3, 1) := by decide +kernel
theorem dX9_bits_4 : decode cX9_bits 4 = .ok (.iload_n 3, 1) := by decide +kernel
theorem dX9_bits_5 : decode cX9_bits 5 = .ok (.iload_n 1, 1) := by decide +kernel
theorem dX9_bits_6 : decode cX9_bits 6 = .ok (.if_icmp .ge 22, 3) := by decide +kernel
theorem dX9_bits_9 : decode cX9_bits 9 = .ok (.aload_n 0, 1) := by decide +kernel
theorem dX9_bits_10 : decode cX9_bits 10 = .ok (.invokevirtual 106, 3) := by decide +kernel
theorem dX9_bits_13 : decode cX9_bits 13 = .ok (.istore 4, 2) := by decide +kernel
theorem dX9_bits_15 : decode cX9_bits 15 = .ok (.iconst 2, 1) := by decide +kernel
theorem dX9_bits_16 : decode cX9_bits 16 = .ok (.iload_n 2, 1) := by decide +kernel
theorem dX9_bits_17 : decode cX9_bits 17 = .ok (.imul, 1) := by decide +kernel
theorem dX9_bits_18 : decode cX9_bits 18 = .ok (.iload 4, 2) := by decide +kernel
theorem dX9_bits_20 : decode cX9_bits 20 = .ok (.iadd, 1) := by decide +kernel
theorem dX9_bits_21 : decode cX9_bits 21 = .ok (.istore_n 2, 1) := by decide +kernel
theorem dX9_bits_22 : decode cX9_bits 22 = .ok (.iinc 3 1, 3) := by decide +kernel
theorem dX9_bits_25 : decode cX9_bits 25 = .ok (.goto (-21), 3) := by decide +kernel
theorem dX9_bits_28 : decode cX9_bits 28 = .ok (.iload_n 2, 1) := by decide +kernel
theorem dX9_bits_29 : decode cX9_bits 29 = .ok (.ireturn, 1) := by decide +kernel
theorem dX9_natural_0 : decode cX9_natural 0 = .ok (.lconst 0, 1) := by decide +kernel
theorem dX9_natural_1 : decode cX9_natural 1 = .ok (.lstore_n 1, 1) := by decide +kernel
theorem dX9_natural_2 : decode cX9_natural 2 = .ok (.iconst 1, 1) := by decide +kernel
theorem dX9_natural_3 : decode cX9_natural 3 = .ok (.istore_n 3, 1) := by decide +kernel
theorem dX9_natural_4 : decode cX9_natural 4 = .ok (.iconst 0, 1) := by decide +kernel
theorem dX9_natural_5 : decode cX9_natural 5 = .ok (.istore 4, 2) := by decide +kernel
theorem dX9_natural_7 : decode cX9_natural 7 = .ok (.iload_n 3, 1) := by decide +kernel
theorem dX9_natural_8 : decode cX9_natural 8 = .ok (.ifCond .eq 91, 3) := by decide +kernel
theorem dX9_natural_11 : decode cX9_natural 11 = .ok (.aload_n 0, 1) := by decide +kernel
theorem dX9_natural_12 : decode cX9_natural 12 = .ok (.getfield 96, 3) := by decide +kernel
theorem dX9_natural_15 : decode cX9_natural 15 = .ok (.ifCond .ne 84, 3) := by decide +kernel
theorem dX9_natural_18 : decode cX9_natural 18 = .ok (.aload_n 0, 1) := by decide +kernel
theorem dX9_natural_19 : decode cX9_natural 19 = .ok (.invokevirtual 106, 3) := by decide +kernel
theorem dX9_natural_22 : decode cX9_natural 22 = .ok (.istore 5, 2) := by decide +kernel
theorem dX9_natural_24 : decode cX9_natural 24 = .ok (.iload 4, 2) := by decide +kernel
theorem dX9_natural_26 : decode cX9_natural 26 = .ok (.iconst 5, 1) := by decide +kernel
theorem dX9_natural_27 : decode cX9_natural 27 = .ok (.if_icmp .ne 16, 3) := by decide +kernel
theorem dX9_natural_30 : decode cX9_natural 30 = .ok (.aload_n 0, 1) := by decide +kernel
theorem dX9_natural_31 : decode cX9_natural 31 = .ok (.aload_n 0, 1) := by decide +kernel
theorem dX9_natural_32 : decode cX9_natural 32 = .ok (.getfield 99, 3) := by decide +kernel
theorem dX9_natural_35 : decode cX9_natural 35 = .ok (.iconst 1, 1) := by decide +kernel
theorem dX9_natural_36 : decode cX9_natural 36 = .ok (.isub, 1) := by decide +kernel
theorem dX9_natural_37 : decode cX9_natural 37 = .ok (.invokevirtual 102, 3) := by decide +kernel
theorem dX9_natural_40 : decode cX9_natural 40 = .ok (.goto 41, 3) := by decide +kernel
theorem dX9_natural_43 : decode cX9_natural 43 = .ok (.aload_n 0, 1) := by decide +kernel
theorem dX9_natural_44 : decode cX9_natural 44 = .ok (.bipush 7, 2) := by decide +kernel
theorem dX9_natural_46 : decode cX9_natural 46 = .ok (.invokevirtual 110, 3) := by decide +kernel
theorem dX9_natural_49 : decode cX9_natural 49 = .ok (.i2l, 1) := by decide +kernel
theorem dX9_natural_50 : decode cX9_natural 50 = .ok (.lstore 6, 2) := by decide +kernel
theorem dX9_natural_52 : decode cX9_natural 52 = .ok (.lload_n 1, 1) := by decide +kernel
theorem dX9_natural_53 : decode cX9_natural 53 = .ok (.lload 6, 2) := by decide +kernel
theorem dX9_natural_55 : decode cX9_natural 55 = .ok (.bipush 7, 2) := by decide +kernel
theorem dX9_natural_57 : decode cX9_natural 57 = .ok (.iload 4, 2) := by decide +kernel
theorem dX9_natural_59 : decode cX9_natural 59 = .ok (.imul, 1) := by decide +kernel
theorem dX9_natural_60 : decode cX9_natural 60 = .ok (.lshl, 1) := by decide +kernel
theorem dX9_natural_61 : decode cX9_natural 61 = .ok (.ladd, 1) := by decide +kernel
theorem dX9_natural_62 : decode cX9_natural 62 = .ok (.lstore_n 1, 1) := by decide +kernel
theorem dX9_natural_63 : decode cX9_natural 63 = .ok (.lload_n 1, 1) := by decide +kernel
theorem dX9_natural_64 : decode cX9_natural 64 = .ok (.ldc2_w 114, 3) := by decide +kernel
theorem dX9_natural_67 : decode cX9_natural 67 = .ok (.lcmp, 1) := by decide +kernel
theorem dX9_natural_68 : decode cX9_natural 68 = .ok (.ifCond .le 13, 3) := by decide +kernel
theorem dX9_natural_71 : decode cX9_natural 71 = .ok (.aload_n 0, 1) := by decide +kernel
theorem dX9_natural_72 : decode cX9_natural 72 = .ok (.aload_n 0, 1) := by decide +kernel
theorem dX9_natural_73 : decode cX9_natural 73 = .ok (.getfield 99, 3) := by decide +kernel
theorem dX9_natural_76 : decode cX9_natural 76 = .ok (.iconst 1, 1) := by decide +kernel
theorem dX9_natural_77 : decode cX9_natural 77 = .ok (.isub, 1) := by decide +kernel
theorem dX9_natural_78 : decode cX9_natural 78 = .ok (.invokevirtual 102, 3) := by decide +kernel
theorem dX9_natural_81 : decode cX9_natural 81 = .ok (.iload 5, 2) := by decide +kernel
theorem dX9_natural_83 : decode cX9_natural 83 = .ok (.iconst 1, 1) := by decide +kernel
theorem dX9_natural_84 : decode cX9_natural 84 = .ok (.if_icmp .ne 7, 3) := by decide +kernel
theorem dX9_natural_87 : decode cX9_natural 87 = .ok (.iconst 1, 1) := by decide +kernel
theorem dX9_natural_88 : decode cX9_natural 88 = .ok (.goto 4, 3) := by decide +kernel
theorem dX9_natural_91 : decode cX9_natural 91 = .ok (.iconst 0, 1) := by decide +kernel
theorem dX9_natural_92 : decode cX9_natural 92 = .ok (.istore_n 3, 1) := by decide +kernel
theorem dX9_natural_93 : decode cX9_natural 93 = .ok (.iinc 4 1, 3) := by decide +kernel
theorem dX9_natural_96 : decode cX9_natural 96 = .ok (.goto (-89), 3) := by decide +kernel
theorem dX9_natural_99 : decode cX9_natural 99 = .ok (.lload_n 1, 1) := by decide +kernel
theorem dX9_natural_100 : decode cX9_natural 100 = .ok (.l2i, 1) := by decide +kernel
theorem dX9_natural_101 : decode cX9_natural 101 = .ok (.ireturn, 1) := by decide +kernel
theorem dX9_constant_0 : decode cX9_constant 0 = .ok (.aload_n 0, 1) := by decide +kernel
theorem dX9_constant_1 : decode cX9_constant 1 = .ok (.getfield 16, 3) := by decide +kernel
theorem dX9_constant_4 : decode cX9_constant 4 = .ok (.iload_n 1, 1) := by decide +kernel
theorem dX9_constant_5 : decode cX9_constant 5 = .ok (.aload_n 0, 1) := by decide +kernel
theorem dX9_constant_6 : decode cX9_constant 6 = .ok (.iconst 2, 1) := by decide +kernel
theorem dX9_constant_7 : decode cX9_constant 7 = .ok (.invokevirtual 110, 3) := by decide +kernel
theorem dX9_constant_10 : decode cX9_constant 10 = .ok (.iastore, 1) := by decide +kernel
theorem dX9_constant_11 : decode cX9_constant 11 = .ok (.aload_n 0, 1) := by decide +kernel
theorem dX9_constant_12 : decode cX9_constant 12 = .ok (.getfield 16, 3) := by decide +kernel
theorem dX9_constant_15 : decode cX9_constant 15 = .ok (.iload_n 1, 1) := by decide +kernel
theorem dX9_constant_16 : decode cX9_constant 16 = .ok (.iaload, 1) := by decide +kernel
theorem dX9_constant_17 : decode cX9_constant 17 = .ok (.ifCond .ne 35, 3) := by decide +kernel
theorem dX9_constant_20 : decode cX9_constant 20 = .ok (.aload_n 0, 1) := by decide +kernel
theorem dX9_constant_21 : decode cX9_constant 21 = .ok (.invokevirtual 116, 3) := by decide +kernel
theorem dX9_constant_24 : decode cX9_constant 24 = .ok (.istore_n 2, 1) := by decide +kernel
theorem dX9_constant_25 : decode cX9_constant 25 = .ok (.aload_n 0, 1) := by decide +kernel
theorem dX9_constant_26 : decode cX9_constant 26 = .ok (.getfield 19, 3) := by decide +kernel
theorem dX9_constant_29 : decode cX9_constant 29 = .ok (.iload_n 1, 1) := by decide +kernel
theorem dX9_constant_30 : decode cX9_constant 30 = .ok (.iload_n 2, 1) := by decide +kernel
theorem dX9_constant_31 : decode cX9_constant 31 = .ok (.iconst 2, 1) := by decide +kernel
theorem dX9_constant_32 : decode cX9_constant 32 = .ok (.irem, 1) := by decide +kernel
theorem dX9_constant_33 : decode cX9_constant 33 = .ok (.ifCond .ne 9, 3) := by decide +kernel
theorem dX9_constant_36 : decode cX9_constant 36 = .ok (.iload_n 2, 1) := by decide +kernel
theorem dX9_constant_37 : decode cX9_constant 37 = .ok (.iconst 2, 1) := by decide +kernel
theorem dX9_constant_38 : decode cX9_constant 38 = .ok (.idiv, 1) := by decide +kernel
theorem dX9_constant_39 : decode cX9_constant 39 = .ok (.goto 9, 3) := by decide +kernel
theorem dX9_constant_42 : decode cX9_constant 42 = .ok (.iload_n 2, 1) := by decide +kernel
theorem dX9_constant_43 : decode cX9_constant 43 = .ok (.iconst 2, 1) := by decide +kernel
theorem dX9_constant_44 : decode cX9_constant 44 = .ok (.idiv, 1) := by decide +kernel
theorem dX9_constant_45 : decode cX9_constant 45 = .ok (.ineg, 1) := by decide +kernel
theorem dX9_constant_46 : decode cX9_constant 46 = .ok (.iconst 1, 1) := by decide +kernel
theorem dX9_constant_47 : decode cX9_constant 47 = .ok (.isub, 1) := by decide +kernel
theorem dX9_constant_48 : decode cX9_constant 48 = .ok (.iastore, 1) := by decide +kernel
theorem dX9_constant_49 : decode cX9_constant 49 = .ok (.goto 93, 3) := by decide +kernel
theorem dX9_constant_52 : decode cX9_constant 52 = .ok (.aload_n 0, 1) := by decide +kernel
theorem dX9_constant_53 : decode cX9_constant 53 = .ok (.getfield 16, 3) := by decide +kernel
theorem dX9_constant_56 : decode cX9_constant 56 = .ok (.iload_n 1, 1) := by decide +kernel
theorem dX9_constant_57 : decode cX9_constant 57 = .ok (.iaload, 1) := by decide +kernel
theorem dX9_constant_58 : decode cX9_constant 58 = .ok (.iconst 1, 1) := by decide +kernel
theorem dX9_constant_59 : decode cX9_constant 59 = .ok (.if_icmp .ne 16, 3) := by decide +kernel
theorem dX9_constant_62 : decode cX9_constant 62 = .ok (.aload_n 0, 1) := by decide +kernel
theorem dX9_constant_63 : decode cX9_constant 63 = .ok (.getfield 19, 3) := by decide +kernel
theorem dX9_constant_66 : decode cX9_constant 66 = .ok (.iload_n 1, 1) := by decide +kernel
theorem dX9_constant_67 : decode cX9_constant 67 = .ok (.aload_n 0, 1) := by decide +kernel
theorem dX9_constant_68 : decode cX9_constant 68 = .ok (.invokevirtual 106, 3) := by decide +kernel
theorem dX9_constant_71 : decode cX9_constant 71 = .ok (.iastore, 1) := by decide +kernel
theorem dX9_constant_72 : decode cX9_constant 72 = .ok (.goto 70, 3) := by decide +kernel
theorem dX9_constant_75 : decode cX9_constant 75 = .ok (.aload_n 0, 1) := by decide +kernel
theorem dX9_constant_76 : decode cX9_constant 76 = .ok (.getfield 16, 3) := by decide +kernel
theorem dX9_constant_79 : decode cX9_constant 79 = .ok (.iload_n 1, 1) := by decide +kernel
theorem dX9_constant_80 : decode cX9_constant 80 = .ok (.iaload, 1) := by decide +kernel
theorem dX9_constant_81 : decode cX9_constant 81 = .ok (.iconst 3, 1) := by decide +kernel
theorem dX9_constant_82 : decode cX9_constant 82 = .ok (.if_icmp .ne 60, 3) := by decide +kernel
theorem dX9_constant_85 : decode cX9_constant 85 = .ok (.aload_n 0, 1) := by decide +kernel
theorem dX9_constant_86 : decode cX9_constant 86 = .ok (.iconst 3, 1) := by decide +kernel
theorem dX9_constant_87 : decode cX9_constant 87 = .ok (.invokevirtual 110, 3) := by decide +kernel
theorem dX9_constant_90 : decode cX9_constant 90 = .ok (.istore_n 2, 1) := by decide +kernel
theorem dX9_constant_91 : decode cX9_constant 91 = .ok (.lconst 0, 1) := by decide +kernel
theorem dX9_constant_92 : decode cX9_constant 92 = .ok (.lstore_n 3, 1) := by decide +kernel
theorem dX9_constant_93 : decode cX9_constant 93 = .ok (.iconst 0, 1) := by decide +kernel
theorem dX9_constant_94 : decode cX9_constant 94 = .ok (.istore 5, 2) := by decide +kernel
theorem dX9_constant_96 : decode cX9_constant 96 = .ok (.iload 5, 2) := by decide +kernel
theorem dX9_constant_98 : decode cX9_constant 98 = .ok (.iload_n 2, 1) := by decide +kernel
theorem dX9_constant_99 : decode cX9_constant 99 = .ok (.if_icmp .ge 29, 3) := by decide +kernel
theorem dX9_constant_102 : decode cX9_constant 102 = .ok (.aload_n 0, 1) := by decide +kernel
theorem dX9_constant_103 : decode cX9_constant 103 = .ok (.bipush 8, 2) := by decide +kernel
theorem dX9_constant_105 : decode cX9_constant 105 = .ok (.invokevirtual 110, 3) := by decide +kernel
theorem dX9_constant_108 : decode cX9_constant 108 = .ok (.istore 6, 2) := by decide +kernel
theorem dX9_constant_110 : decode cX9_constant 110 = .ok (.lload_n 3, 1) := by decide +kernel
theorem dX9_constant_111 : decode cX9_constant 111 = .ok (.iload 6, 2) := by decide +kernel
theorem dX9_constant_113 : decode cX9_constant 113 = .ok (.i2l, 1) := by decide +kernel
theorem dX9_constant_114 : decode cX9_constant 114 = .ok (.bipush 8, 2) := by decide +kernel
theorem dX9_constant_116 : decode cX9_constant 116 = .ok (.iload 5, 2) := by decide +kernel
theorem dX9_constant_118 : decode cX9_constant 118 = .ok (.imul, 1) := by decide +kernel
theorem dX9_constant_119 : decode cX9_constant 119 = .ok (.lshl, 1) := by decide +kernel
theorem dX9_constant_120 : decode cX9_constant 120 = .ok (.lor, 1) := by decide +kernel
theorem dX9_constant_121 : decode cX9_constant 121 = .ok (.lstore_n 3, 1) := by decide +kernel
theorem dX9_constant_122 : decode cX9_constant 122 = .ok (.iinc 5 1, 3) := by decide +kernel
theorem dX9_constant_125 : decode cX9_constant 125 = .ok (.goto (-29), 3) := by decide +kernel
theorem dX9_constant_128 : decode cX9_constant 128 = .ok (.aload_n 0, 1) := by decide +kernel
theorem dX9_constant_129 : decode cX9_constant 129 = .ok (.getfield 19, 3) := by decide +kernel
theorem dX9_constant_132 : decode cX9_constant 132 = .ok (.iload_n 1, 1) := by decide +kernel
theorem dX9_constant_133 : decode cX9_constant 133 = .ok (.iload_n 2, 1) := by decide +kernel
theorem dX9_constant_134 : decode cX9_constant 134 = .ok (.iastore, 1) := by decide +kernel
theorem dX9_constant_135 : decode cX9_constant 135 = .ok (.aload_n 0, 1) := by decide +kernel
theorem dX9_constant_136 : decode cX9_constant 136 = .ok (.getfield 22, 3) := by decide +kernel
theorem dX9_constant_139 : decode cX9_constant 139 = .ok (.iload_n 1, 1) := by decide +kernel
theorem dX9_constant_140 : decode cX9_constant 140 = .ok (.lload_n 3, 1) := by decide +kernel
theorem dX9_constant_141 : decode cX9_constant 141 = .ok (.lastore, 1) := by decide +kernel
theorem dX9_constant_142 : decode cX9_constant 142 = .ok (.return_, 1) := by decide +kernel
theorem dX9_readTerm_0 : decode cX9_readTerm 0 = .ok (.aload_n 0, 1) := by decide +kernel
theorem dX9_readTerm_1 : decode cX9_readTerm 1 = .ok (.iconst 3, 1) := by decide +kernel
theorem dX9_readTerm_2 : decode cX9_readTerm 2 = .ok (.invokevirtual 110, 3) := by decide +kernel
theorem dX9_readTerm_5 : decode cX9_readTerm 5 = .ok (.istore 4, 2) := by decide +kernel
theorem dX9_readTerm_7 : decode cX9_readTerm 7 = .ok (.aload_n 0, 1) := by decide +kernel
theorem dX9_readTerm_8 : decode cX9_readTerm 8 = .ok (.getfield 96, 3) := by decide +kernel
theorem dX9_readTerm_11 : decode cX9_readTerm 11 = .ok (.ifCond .ne 25, 3) := by decide +kernel
theorem dX9_readTerm_14 : decode cX9_readTerm 14 = .ok (.iload_n 1, 1) := by decide +kernel
theorem dX9_readTerm_15 : decode cX9_readTerm 15 = .ok (.bipush 120, 2) := by decide +kernel
theorem dX9_readTerm_17 : decode cX9_readTerm 17 = .ok (.if_icmp .ge 9, 3) := by decide +kernel
theorem dX9_readTerm_20 : decode cX9_readTerm 20 = .ok (.iload_n 2, 1) := by decide +kernel
theorem dX9_readTerm_21 : decode cX9_readTerm 21 = .ok (.bipush 20, 2) := by decide +kernel
theorem dX9_readTerm_23 : decode cX9_readTerm 23 = .ok (.if_icmp .le 13, 3) := by decide +kernel
theorem dX9_readTerm_26 : decode cX9_readTerm 26 = .ok (.aload_n 0, 1) := by decide +kernel
theorem dX9_readTerm_27 : decode cX9_readTerm 27 = .ok (.aload_n 0, 1) := by decide +kernel
theorem dX9_readTerm_28 : decode cX9_readTerm 28 = .ok (.getfield 99, 3) := by decide +kernel
theorem dX9_readTerm_31 : decode cX9_readTerm 31 = .ok (.iconst 1, 1) := by decide +kernel
theorem dX9_readTerm_32 : decode cX9_readTerm 32 = .ok (.isub, 1) := by decide +kernel
theorem dX9_readTerm_33 : decode cX9_readTerm 33 = .ok (.invokevirtual 102, 3) := by decide +kernel
theorem dX9_readTerm_36 : decode cX9_readTerm 36 = .ok (.aload_n 0, 1) := by decide +kernel
theorem dX9_readTerm_37 : decode cX9_readTerm 37 = .ok (.getfield 96, 3) := by decide +kernel
theorem dX9_readTerm_40 : decode cX9_readTerm 40 = .ok (.ifCond .ge 4, 3) := by decide +kernel
theorem dX9_readTerm_43 : decode cX9_readTerm 43 = .ok (.return_, 1) := by decide +kernel
theorem dX9_readTerm_44 : decode cX9_readTerm 44 = .ok (.aload_n 0, 1) := by decide +kernel
theorem dX9_readTerm_45 : decode cX9_readTerm 45 = .ok (.getfield 13, 3) := by decide +kernel
theorem dX9_readTerm_48 : decode cX9_readTerm 48 = .ok (.iload_n 1, 1) := by decide +kernel
theorem dX9_readTerm_49 : decode cX9_readTerm 49 = .ok (.iload 4, 2) := by decide +kernel
theorem dX9_readTerm_51 : decode cX9_readTerm 51 = .ok (.iastore, 1) := by decide +kernel
theorem dX9_readTerm_52 : decode cX9_readTerm 52 = .ok (.aload_n 0, 1) := by decide +kernel
theorem dX9_readTerm_53 : decode cX9_readTerm 53 = .ok (.getfield 16, 3) := by decide +kernel
theorem dX9_readTerm_56 : decode cX9_readTerm 56 = .ok (.iload_n 1, 1) := by decide +kernel
theorem dX9_readTerm_57 : decode cX9_readTerm 57 = .ok (.iconst 0, 1) := by decide +kernel
theorem dX9_readTerm_58 : decode cX9_readTerm 58 = .ok (.iastore, 1) := by decide +kernel
theorem dX9_readTerm_59 : decode cX9_readTerm 59 = .ok (.aload_n 0, 1) := by decide +kernel
theorem dX9_readTerm_60 : decode cX9_readTerm 60 = .ok (.getfield 19, 3) := by decide +kernel
theorem dX9_readTerm_63 : decode cX9_readTerm 63 = .ok (.iload_n 1, 1) := by decide +kernel
theorem dX9_readTerm_64 : decode cX9_readTerm 64 = .ok (.iconst 0, 1) := by decide +kernel
theorem dX9_readTerm_65 : decode cX9_readTerm 65 = .ok (.iastore, 1) := by decide +kernel
theorem dX9_readTerm_66 : decode cX9_readTerm 66 = .ok (.aload_n 0, 1) := by decide +kernel
theorem dX9_readTerm_67 : decode cX9_readTerm 67 = .ok (.getfield 22, 3) := by decide +kernel
theorem dX9_readTerm_70 : decode cX9_readTerm 70 = .ok (.iload_n 1, 1) := by decide +kernel
theorem dX9_readTerm_71 : decode cX9_readTerm 71 = .ok (.lconst 0, 1) := by decide +kernel
theorem dX9_readTerm_72 : decode cX9_readTerm 72 = .ok (.lastore, 1) := by decide +kernel
theorem dX9_readTerm_73 : decode cX9_readTerm 73 = .ok (.iload 4, 2) := by decide +kernel
theorem dX9_readTerm_75 : decode cX9_readTerm 75 = .ok (.ifCond .ne 42, 3) := by decide +kernel
theorem dX9_readTerm_78 : decode cX9_readTerm 78 = .ok (.aload_n 0, 1) := by decide +kernel
theorem dX9_readTerm_79 : decode cX9_readTerm 79 = .ok (.invokevirtual 116, 3) := by decide +kernel
theorem dX9_readTerm_82 : decode cX9_readTerm 82 = .ok (.istore 5, 2) := by decide +kernel
theorem dX9_readTerm_84 : decode cX9_readTerm 84 = .ok (.aload_n 0, 1) := by decide +kernel
theorem dX9_readTerm_85 : decode cX9_readTerm 85 = .ok (.getfield 19, 3) := by decide +kernel
theorem dX9_readTerm_88 : decode cX9_readTerm 88 = .ok (.iload_n 1, 1) := by decide +kernel
theorem dX9_readTerm_89 : decode cX9_readTerm 89 = .ok (.iload 5, 2) := by decide +kernel
theorem dX9_readTerm_91 : decode cX9_readTerm 91 = .ok (.iastore, 1) := by decide +kernel
theorem dX9_readTerm_92 : decode cX9_readTerm 92 = .ok (.iload 5, 2) := by decide +kernel
theorem dX9_readTerm_94 : decode cX9_readTerm 94 = .ok (.iconst 1, 1) := by decide +kernel
theorem dX9_readTerm_95 : decode cX9_readTerm 95 = .ok (.if_icmp .lt 9, 3) := by decide +kernel
theorem dX9_readTerm_98 : decode cX9_readTerm 98 = .ok (.iload 5, 2) := by decide +kernel
theorem dX9_readTerm_100 : decode cX9_readTerm 100 = .ok (.iload_n 3, 1) := by decide +kernel
theorem dX9_readTerm_101 : decode cX9_readTerm 101 = .ok (.if_icmp .le 13, 3) := by decide +kernel
theorem dX9_readTerm_104 : decode cX9_readTerm 104 = .ok (.aload_n 0, 1) := by decide +kernel
theorem dX9_readTerm_105 : decode cX9_readTerm 105 = .ok (.aload_n 0, 1) := by decide +kernel
theorem dX9_readTerm_106 : decode cX9_readTerm 106 = .ok (.getfield 99, 3) := by decide +kernel
theorem dX9_readTerm_109 : decode cX9_readTerm 109 = .ok (.iconst 1, 1) := by decide +kernel
theorem dX9_readTerm_110 : decode cX9_readTerm 110 = .ok (.isub, 1) := by decide +kernel
theorem dX9_readTerm_111 : decode cX9_readTerm 111 = .ok (.invokevirtual 102, 3) := by decide +kernel
theorem dX9_readTerm_114 : decode cX9_readTerm 114 = .ok (.goto 56, 3) := by decide +kernel
theorem dX9_readTerm_117 : decode cX9_readTerm 117 = .ok (.iload 4, 2) := by decide +kernel
theorem dX9_readTerm_119 : decode cX9_readTerm 119 = .ok (.iconst 4, 1) := by decide +kernel
theorem dX9_readTerm_120 : decode cX9_readTerm 120 = .ok (.if_icmp .ne 11, 3) := by decide +kernel
theorem dX9_readTerm_123 : decode cX9_readTerm 123 = .ok (.aload_n 0, 1) := by decide +kernel
theorem dX9_readTerm_124 : decode cX9_readTerm 124 = .ok (.iload_n 1, 1) := by decide +kernel
theorem dX9_readTerm_125 : decode cX9_readTerm 125 = .ok (.invokevirtual 119, 3) := by decide +kernel
theorem dX9_readTerm_128 : decode cX9_readTerm 128 = .ok (.goto 42, 3) := by decide +kernel
theorem dX9_readTerm_131 : decode cX9_readTerm 131 = .ok (.iload 4, 2) := by decide +kernel
theorem dX9_readTerm_133 : decode cX9_readTerm 133 = .ok (.bipush 7, 2) := by decide +kernel
theorem dX9_readTerm_135 : decode cX9_readTerm 135 = .ok (.if_icmp .ne 35, 3) := by decide +kernel
theorem dX9_readTerm_138 : decode cX9_readTerm 138 = .ok (.aload_n 0, 1) := by decide +kernel
theorem dX9_readTerm_139 : decode cX9_readTerm 139 = .ok (.iconst 4, 1) := by decide +kernel
theorem dX9_readTerm_140 : decode cX9_readTerm 140 = .ok (.invokevirtual 110, 3) := by decide +kernel
theorem dX9_readTerm_143 : decode cX9_readTerm 143 = .ok (.istore 5, 2) := by decide +kernel
theorem dX9_readTerm_145 : decode cX9_readTerm 145 = .ok (.aload_n 0, 1) := by decide +kernel
theorem dX9_readTerm_146 : decode cX9_readTerm 146 = .ok (.getfield 19, 3) := by decide +kernel
theorem dX9_readTerm_149 : decode cX9_readTerm 149 = .ok (.iload_n 1, 1) := by decide +kernel
theorem dX9_readTerm_150 : decode cX9_readTerm 150 = .ok (.iload 5, 2) := by decide +kernel
theorem dX9_readTerm_152 : decode cX9_readTerm 152 = .ok (.iastore, 1) := by decide +kernel
theorem dX9_readTerm_153 : decode cX9_readTerm 153 = .ok (.iload 5, 2) := by decide +kernel
theorem dX9_readTerm_155 : decode cX9_readTerm 155 = .ok (.bipush 11, 2) := by decide +kernel
theorem dX9_readTerm_157 : decode cX9_readTerm 157 = .ok (.if_icmp .le 13, 3) := by decide +kernel
theorem dX9_readTerm_160 : decode cX9_readTerm 160 = .ok (.aload_n 0, 1) := by decide +kernel
theorem dX9_readTerm_161 : decode cX9_readTerm 161 = .ok (.aload_n 0, 1) := by decide +kernel
theorem dX9_readTerm_162 : decode cX9_readTerm 162 = .ok (.getfield 99, 3) := by decide +kernel
theorem dX9_readTerm_165 : decode cX9_readTerm 165 = .ok (.iconst 1, 1) := by decide +kernel
theorem dX9_readTerm_166 : decode cX9_readTerm 166 = .ok (.isub, 1) := by decide +kernel
theorem dX9_readTerm_167 : decode cX9_readTerm 167 = .ok (.invokevirtual 102, 3) := by decide +kernel
theorem dX9_readTerm_170 : decode cX9_readTerm 170 = .ok (.iload 4, 2) := by decide +kernel
theorem dX9_readTerm_172 : decode cX9_readTerm 172 = .ok (.iconst 3, 1) := by decide +kernel
theorem dX9_readTerm_173 : decode cX9_readTerm 173 = .ok (.if_icmp .ne 7, 3) := by decide +kernel
theorem dX9_readTerm_176 : decode cX9_readTerm 176 = .ok (.iconst 2, 1) := by decide +kernel
theorem dX9_readTerm_177 : decode cX9_readTerm 177 = .ok (.goto 26, 3) := by decide +kernel
theorem dX9_readTerm_180 : decode cX9_readTerm 180 = .ok (.iload 4, 2) := by decide +kernel
theorem dX9_readTerm_182 : decode cX9_readTerm 182 = .ok (.iconst 1, 1) := by decide +kernel
theorem dX9_readTerm_183 : decode cX9_readTerm 183 = .ok (.if_icmp .eq 15, 3) := by decide +kernel
theorem dX9_readTerm_186 : decode cX9_readTerm 186 = .ok (.iload 4, 2) := by decide +kernel
theorem dX9_readTerm_188 : decode cX9_readTerm 188 = .ok (.iconst 2, 1) := by decide +kernel
theorem dX9_readTerm_189 : decode cX9_readTerm 189 = .ok (.if_icmp .eq 9, 3) := by decide +kernel
theorem dX9_readTerm_192 : decode cX9_readTerm 192 = .ok (.iload 4, 2) := by decide +kernel
theorem dX9_readTerm_194 : decode cX9_readTerm 194 = .ok (.iconst 5, 1) := by decide +kernel
theorem dX9_readTerm_195 : decode cX9_readTerm 195 = .ok (.if_icmp .ne 7, 3) := by decide +kernel
theorem dX9_readTerm_198 : decode cX9_readTerm 198 = .ok (.iconst 1, 1) := by decide +kernel
theorem dX9_readTerm_199 : decode cX9_readTerm 199 = .ok (.goto 4, 3) := by decide +kernel
theorem dX9_readTerm_202 : decode cX9_readTerm 202 = .ok (.iconst 0, 1) := by decide +kernel
theorem dX9_readTerm_203 : decode cX9_readTerm 203 = .ok (.istore 5, 2) := by decide +kernel
theorem dX9_readTerm_205 : decode cX9_readTerm 205 = .ok (.iload 5, 2) := by decide +kernel
theorem dX9_readTerm_207 : decode cX9_readTerm 207 = .ok (.istore 6, 2) := by decide +kernel
theorem dX9_readTerm_209 : decode cX9_readTerm 209 = .ok (.iload 6, 2) := by decide +kernel
theorem dX9_readTerm_211 : decode cX9_readTerm 211 = .ok (.ifCond .le 70, 3) := by decide +kernel
theorem dX9_readTerm_214 : decode cX9_readTerm 214 = .ok (.aload_n 0, 1) := by decide +kernel
theorem dX9_readTerm_215 : decode cX9_readTerm 215 = .ok (.getfield 32, 3) := by decide +kernel
theorem dX9_readTerm_218 : decode cX9_readTerm 218 = .ok (.aload_n 0, 1) := by decide +kernel
theorem dX9_readTerm_219 : decode cX9_readTerm 219 = .ok (.getfield 122, 3) := by decide +kernel
theorem dX9_readTerm_222 : decode cX9_readTerm 222 = .ok (.iload_n 2, 1) := by decide +kernel
theorem dX9_readTerm_223 : decode cX9_readTerm 223 = .ok (.iconst 1, 1) := by decide +kernel
theorem dX9_readTerm_224 : decode cX9_readTerm 224 = .ok (.iadd, 1) := by decide +kernel
theorem dX9_readTerm_225 : decode cX9_readTerm 225 = .ok (.iastore, 1) := by decide +kernel
theorem dX9_readTerm_226 : decode cX9_readTerm 226 = .ok (.aload_n 0, 1) := by decide +kernel
theorem dX9_readTerm_227 : decode cX9_readTerm 227 = .ok (.getfield 35, 3) := by decide +kernel
theorem dX9_readTerm_230 : decode cX9_readTerm 230 = .ok (.aload_n 0, 1) := by decide +kernel
theorem dX9_readTerm_231 : decode cX9_readTerm 231 = .ok (.getfield 122, 3) := by decide +kernel
theorem dX9_readTerm_234 : decode cX9_readTerm 234 = .ok (.iload_n 3, 1) := by decide +kernel
theorem dX9_readTerm_235 : decode cX9_readTerm 235 = .ok (.iload 4, 2) := by decide +kernel
theorem dX9_readTerm_237 : decode cX9_readTerm 237 = .ok (.iconst 2, 1) := by decide +kernel
theorem dX9_readTerm_238 : decode cX9_readTerm 238 = .ok (.if_icmp .ne 7, 3) := by decide +kernel
theorem dX9_readTerm_241 : decode cX9_readTerm 241 = .ok (.iconst 1, 1) := by decide +kernel
theorem dX9_readTerm_242 : decode cX9_readTerm 242 = .ok (.goto 4, 3) := by decide +kernel
theorem dX9_readTerm_245 : decode cX9_readTerm 245 = .ok (.iconst 0, 1) := by decide +kernel
theorem dX9_readTerm_246 : decode cX9_readTerm 246 = .ok (.iadd, 1) := by decide +kernel
theorem dX9_readTerm_247 : decode cX9_readTerm 247 = .ok (.iastore, 1) := by decide +kernel
theorem dX9_readTerm_248 : decode cX9_readTerm 248 = .ok (.aload_n 0, 1) := by decide +kernel
theorem dX9_readTerm_249 : decode cX9_readTerm 249 = .ok (.getfield 38, 3) := by decide +kernel
theorem dX9_readTerm_252 : decode cX9_readTerm 252 = .ok (.aload_n 0, 1) := by decide +kernel
theorem dX9_readTerm_253 : decode cX9_readTerm 253 = .ok (.getfield 122, 3) := by decide +kernel
theorem dX9_readTerm_256 : decode cX9_readTerm 256 = .ok (.iconst 2, 1) := by decide +kernel
theorem dX9_readTerm_257 : decode cX9_readTerm 257 = .ok (.iload_n 1, 1) := by decide +kernel
theorem dX9_readTerm_258 : decode cX9_readTerm 258 = .ok (.imul, 1) := by decide +kernel
theorem dX9_readTerm_259 : decode cX9_readTerm 259 = .ok (.iload 6, 2) := by decide +kernel
theorem dX9_readTerm_261 : decode cX9_readTerm 261 = .ok (.iadd, 1) := by decide +kernel
theorem dX9_readTerm_262 : decode cX9_readTerm 262 = .ok (.iconst 1, 1) := by decide +kernel
theorem dX9_readTerm_263 : decode cX9_readTerm 263 = .ok (.isub, 1) := by decide +kernel
theorem dX9_readTerm_264 : decode cX9_readTerm 264 = .ok (.iastore, 1) := by decide +kernel
theorem dX9_readTerm_265 : decode cX9_readTerm 265 = .ok (.aload_n 0, 1) := by decide +kernel
theorem dX9_readTerm_266 : decode cX9_readTerm 266 = .ok (.dup, 1) := by decide +kernel
theorem dX9_readTerm_267 : decode cX9_readTerm 267 = .ok (.getfield 122, 3) := by decide +kernel
theorem dX9_readTerm_270 : decode cX9_readTerm 270 = .ok (.iconst 1, 1) := by decide +kernel
theorem dX9_readTerm_271 : decode cX9_readTerm 271 = .ok (.iadd, 1) := by decide +kernel
theorem dX9_readTerm_272 : decode cX9_readTerm 272 = .ok (.putfield 122, 3) := by decide +kernel
theorem dX9_readTerm_275 : decode cX9_readTerm 275 = .ok (.iinc 6 (-1), 3) := by decide +kernel
theorem dX9_readTerm_278 : decode cX9_readTerm 278 = .ok (.goto (-69), 3) := by decide +kernel
theorem dX9_readTerm_281 : decode cX9_readTerm 281 = .ok (.return_, 1) := by decide +kernel
theorem dX9_readText_0 : decode cX9_readText 0 = .ok (.aload_n 0, 1) := by decide +kernel
theorem dX9_readText_1 : decode cX9_readText 1 = .ok (.iconst 0, 1) := by decide +kernel
theorem dX9_readText_2 : decode cX9_readText 2 = .ok (.putfield 99, 3) := by decide +kernel
theorem dX9_readText_5 : decode cX9_readText 5 = .ok (.aload_n 0, 1) := by decide +kernel
theorem dX9_readText_6 : decode cX9_readText 6 = .ok (.iconst 0, 1) := by decide +kernel
theorem dX9_readText_7 : decode cX9_readText 7 = .ok (.putfield 96, 3) := by decide +kernel
theorem dX9_readText_10 : decode cX9_readText 10 = .ok (.aload_n 0, 1) := by decide +kernel
theorem dX9_readText_11 : decode cX9_readText 11 = .ok (.bipush 60, 2) := by decide +kernel
theorem dX9_readText_13 : decode cX9_readText 13 = .ok (.putfield 125, 3) := by decide +kernel
theorem dX9_readText_16 : decode cX9_readText 16 = .ok (.aload_n 0, 1) := by decide +kernel
theorem dX9_readText_17 : decode cX9_readText 17 = .ok (.aload_n 0, 1) := by decide +kernel
theorem dX9_readText_18 : decode cX9_readText 18 = .ok (.invokevirtual 116, 3) := by decide +kernel
theorem dX9_readText_21 : decode cX9_readText 21 = .ok (.putfield 128, 3) := by decide +kernel
theorem dX9_readText_24 : decode cX9_readText 24 = .ok (.aload_n 0, 1) := by decide +kernel
theorem dX9_readText_25 : decode cX9_readText 25 = .ok (.getfield 32, 3) := by decide +kernel
theorem dX9_readText_28 : decode cX9_readText 28 = .ok (.iconst 0, 1) := by decide +kernel
theorem dX9_readText_29 : decode cX9_readText 29 = .ok (.iconst 0, 1) := by decide +kernel
theorem dX9_readText_30 : decode cX9_readText 30 = .ok (.iastore, 1) := by decide +kernel
theorem dX9_readText_31 : decode cX9_readText 31 = .ok (.aload_n 0, 1) := by decide +kernel
theorem dX9_readText_32 : decode cX9_readText 32 = .ok (.getfield 35, 3) := by decide +kernel
theorem dX9_readText_35 : decode cX9_readText 35 = .ok (.iconst 0, 1) := by decide +kernel
theorem dX9_readText_36 : decode cX9_readText 36 = .ok (.iconst 0, 1) := by decide +kernel
theorem dX9_readText_37 : decode cX9_readText 37 = .ok (.iastore, 1) := by decide +kernel
theorem dX9_readText_38 : decode cX9_readText 38 = .ok (.aload_n 0, 1) := by decide +kernel
theorem dX9_readText_39 : decode cX9_readText 39 = .ok (.getfield 38, 3) := by decide +kernel
theorem dX9_readText_42 : decode cX9_readText 42 = .ok (.iconst 0, 1) := by decide +kernel
theorem dX9_readText_43 : decode cX9_readText 43 = .ok (.iconst (-1), 1) := by decide +kernel
theorem dX9_readText_44 : decode cX9_readText 44 = .ok (.iastore, 1) := by decide +kernel
theorem dX9_readText_45 : decode cX9_readText 45 = .ok (.aload_n 0, 1) := by decide +kernel
theorem dX9_readText_46 : decode cX9_readText 46 = .ok (.aload_n 0, 1) := by decide +kernel
theorem dX9_readText_47 : decode cX9_readText 47 = .ok (.getfield 96, 3) := by decide +kernel
theorem dX9_readText_50 : decode cX9_readText 50 = .ok (.ifCond .ne 7, 3) := by decide +kernel
theorem dX9_readText_53 : decode cX9_readText 53 = .ok (.iconst 1, 1) := by decide +kernel
theorem dX9_readText_54 : decode cX9_readText 54 = .ok (.goto 4, 3) := by decide +kernel
theorem dX9_readText_57 : decode cX9_readText 57 = .ok (.iconst 0, 1) := by decide +kernel
theorem dX9_readText_58 : decode cX9_readText 58 = .ok (.putfield 122, 3) := by decide +kernel
theorem dX9_readText_61 : decode cX9_readText 61 = .ok (.aload_n 0, 1) := by decide +kernel
theorem dX9_readText_62 : decode cX9_readText 62 = .ok (.getfield 122, 3) := by decide +kernel
theorem dX9_readText_65 : decode cX9_readText 65 = .ok (.ifCond .le 144, 3) := by decide +kernel
theorem dX9_readText_68 : decode cX9_readText 68 = .ok (.aload_n 0, 1) := by decide +kernel
theorem dX9_readText_69 : decode cX9_readText 69 = .ok (.getfield 96, 3) := by decide +kernel
theorem dX9_readText_72 : decode cX9_readText 72 = .ok (.ifCond .ne 137, 3) := by decide +kernel
theorem dX9_readText_75 : decode cX9_readText 75 = .ok (.aload_n 0, 1) := by decide +kernel
theorem dX9_readText_76 : decode cX9_readText 76 = .ok (.dup, 1) := by decide +kernel
theorem dX9_readText_77 : decode cX9_readText 77 = .ok (.getfield 122, 3) := by decide +kernel
theorem dX9_readText_80 : decode cX9_readText 80 = .ok (.iconst 1, 1) := by decide +kernel
theorem dX9_readText_81 : decode cX9_readText 81 = .ok (.isub, 1) := by decide +kernel
theorem dX9_readText_82 : decode cX9_readText 82 = .ok (.putfield 122, 3) := by decide +kernel
theorem dX9_readText_85 : decode cX9_readText 85 = .ok (.aload_n 0, 1) := by decide +kernel
theorem dX9_readText_86 : decode cX9_readText 86 = .ok (.getfield 38, 3) := by decide +kernel
theorem dX9_readText_89 : decode cX9_readText 89 = .ok (.aload_n 0, 1) := by decide +kernel
theorem dX9_readText_90 : decode cX9_readText 90 = .ok (.getfield 122, 3) := by decide +kernel
theorem dX9_readText_93 : decode cX9_readText 93 = .ok (.iaload, 1) := by decide +kernel
theorem dX9_readText_94 : decode cX9_readText 94 = .ok (.istore_n 1, 1) := by decide +kernel
theorem dX9_readText_95 : decode cX9_readText 95 = .ok (.aload_n 0, 1) := by decide +kernel
theorem dX9_readText_96 : decode cX9_readText 96 = .ok (.getfield 32, 3) := by decide +kernel
theorem dX9_readText_99 : decode cX9_readText 99 = .ok (.aload_n 0, 1) := by decide +kernel
theorem dX9_readText_100 : decode cX9_readText 100 = .ok (.getfield 122, 3) := by decide +kernel
theorem dX9_readText_103 : decode cX9_readText 103 = .ok (.iaload, 1) := by decide +kernel
theorem dX9_readText_104 : decode cX9_readText 104 = .ok (.istore_n 2, 1) := by decide +kernel
theorem dX9_readText_105 : decode cX9_readText 105 = .ok (.aload_n 0, 1) := by decide +kernel
theorem dX9_readText_106 : decode cX9_readText 106 = .ok (.getfield 35, 3) := by decide +kernel
theorem dX9_readText_109 : decode cX9_readText 109 = .ok (.aload_n 0, 1) := by decide +kernel
theorem dX9_readText_110 : decode cX9_readText 110 = .ok (.getfield 122, 3) := by decide +kernel
theorem dX9_readText_113 : decode cX9_readText 113 = .ok (.iaload, 1) := by decide +kernel
theorem dX9_readText_114 : decode cX9_readText 114 = .ok (.istore_n 3, 1) := by decide +kernel
theorem dX9_readText_115 : decode cX9_readText 115 = .ok (.aload_n 0, 1) := by decide +kernel
theorem dX9_readText_116 : decode cX9_readText 116 = .ok (.aload_n 0, 1) := by decide +kernel
theorem dX9_readText_117 : decode cX9_readText 117 = .ok (.getfield 125, 3) := by decide +kernel
theorem dX9_readText_120 : decode cX9_readText 120 = .ok (.iload_n 2, 1) := by decide +kernel
theorem dX9_readText_121 : decode cX9_readText 121 = .ok (.iload_n 3, 1) := by decide +kernel
theorem dX9_readText_122 : decode cX9_readText 122 = .ok (.invokevirtual 131, 3) := by decide +kernel
theorem dX9_readText_125 : decode cX9_readText 125 = .ok (.iload_n 1, 1) := by decide +kernel
theorem dX9_readText_126 : decode cX9_readText 126 = .ok (.iconst (-1), 1) := by decide +kernel
theorem dX9_readText_127 : decode cX9_readText 127 = .ok (.if_icmp .eq 69, 3) := by decide +kernel
theorem dX9_readText_130 : decode cX9_readText 130 = .ok (.aload_n 0, 1) := by decide +kernel
theorem dX9_readText_131 : decode cX9_readText 131 = .ok (.getfield 96, 3) := by decide +kernel
theorem dX9_readText_134 : decode cX9_readText 134 = .ok (.ifCond .ne 62, 3) := by decide +kernel
theorem dX9_readText_137 : decode cX9_readText 137 = .ok (.aload_n 0, 1) := by decide +kernel
theorem dX9_readText_138 : decode cX9_readText 138 = .ok (.getfield 26, 3) := by decide +kernel
theorem dX9_readText_141 : decode cX9_readText 141 = .ok (.iload_n 1, 1) := by decide +kernel
theorem dX9_readText_142 : decode cX9_readText 142 = .ok (.iconst 2, 1) := by decide +kernel
theorem dX9_readText_143 : decode cX9_readText 143 = .ok (.idiv, 1) := by decide +kernel
theorem dX9_readText_144 : decode cX9_readText 144 = .ok (.iload_n 1, 1) := by decide +kernel
theorem dX9_readText_145 : decode cX9_readText 145 = .ok (.iconst 2, 1) := by decide +kernel
theorem dX9_readText_146 : decode cX9_readText 146 = .ok (.irem, 1) := by decide +kernel
theorem dX9_readText_147 : decode cX9_readText 147 = .ok (.ifCond .ne 10, 3) := by decide +kernel
theorem dX9_readText_150 : decode cX9_readText 150 = .ok (.aload_n 0, 1) := by decide +kernel
theorem dX9_readText_151 : decode cX9_readText 151 = .ok (.getfield 125, 3) := by decide +kernel
theorem dX9_readText_154 : decode cX9_readText 154 = .ok (.goto 11, 3) := by decide +kernel
theorem dX9_readText_157 : decode cX9_readText 157 = .ok (.aload_n 0, 1) := by decide +kernel
theorem dX9_readText_158 : decode cX9_readText 158 = .ok (.getfield 26, 3) := by decide +kernel
theorem dX9_readText_161 : decode cX9_readText 161 = .ok (.iload_n 1, 1) := by decide +kernel
theorem dX9_readText_162 : decode cX9_readText 162 = .ok (.iconst 2, 1) := by decide +kernel
theorem dX9_readText_163 : decode cX9_readText 163 = .ok (.idiv, 1) := by decide +kernel
theorem dX9_readText_164 : decode cX9_readText 164 = .ok (.iaload, 1) := by decide +kernel
theorem dX9_readText_165 : decode cX9_readText 165 = .ok (.iastore, 1) := by decide +kernel
theorem dX9_readText_166 : decode cX9_readText 166 = .ok (.aload_n 0, 1) := by decide +kernel
theorem dX9_readText_167 : decode cX9_readText 167 = .ok (.getfield 29, 3) := by decide +kernel
theorem dX9_readText_170 : decode cX9_readText 170 = .ok (.iload_n 1, 1) := by decide +kernel
theorem dX9_readText_171 : decode cX9_readText 171 = .ok (.iconst 2, 1) := by decide +kernel
theorem dX9_readText_172 : decode cX9_readText 172 = .ok (.idiv, 1) := by decide +kernel
theorem dX9_readText_173 : decode cX9_readText 173 = .ok (.iload_n 1, 1) := by decide +kernel
theorem dX9_readText_174 : decode cX9_readText 174 = .ok (.iconst 2, 1) := by decide +kernel
theorem dX9_readText_175 : decode cX9_readText 175 = .ok (.irem, 1) := by decide +kernel
theorem dX9_readText_176 : decode cX9_readText 176 = .ok (.iconst 1, 1) := by decide +kernel
theorem dX9_readText_177 : decode cX9_readText 177 = .ok (.if_icmp .ne 10, 3) := by decide +kernel
theorem dX9_readText_180 : decode cX9_readText 180 = .ok (.aload_n 0, 1) := by decide +kernel
theorem dX9_readText_181 : decode cX9_readText 181 = .ok (.getfield 125, 3) := by decide +kernel
theorem dX9_readText_184 : decode cX9_readText 184 = .ok (.goto 11, 3) := by decide +kernel
theorem dX9_readText_187 : decode cX9_readText 187 = .ok (.aload_n 0, 1) := by decide +kernel
theorem dX9_readText_188 : decode cX9_readText 188 = .ok (.getfield 29, 3) := by decide +kernel
theorem dX9_readText_191 : decode cX9_readText 191 = .ok (.iload_n 1, 1) := by decide +kernel
theorem dX9_readText_192 : decode cX9_readText 192 = .ok (.iconst 2, 1) := by decide +kernel
theorem dX9_readText_193 : decode cX9_readText 193 = .ok (.idiv, 1) := by decide +kernel
theorem dX9_readText_194 : decode cX9_readText 194 = .ok (.iaload, 1) := by decide +kernel
theorem dX9_readText_195 : decode cX9_readText 195 = .ok (.iastore, 1) := by decide +kernel
theorem dX9_readText_196 : decode cX9_readText 196 = .ok (.aload_n 0, 1) := by decide +kernel
theorem dX9_readText_197 : decode cX9_readText 197 = .ok (.dup, 1) := by decide +kernel
theorem dX9_readText_198 : decode cX9_readText 198 = .ok (.getfield 125, 3) := by decide +kernel
theorem dX9_readText_201 : decode cX9_readText 201 = .ok (.iconst 1, 1) := by decide +kernel
theorem dX9_readText_202 : decode cX9_readText 202 = .ok (.iadd, 1) := by decide +kernel
theorem dX9_readText_203 : decode cX9_readText 203 = .ok (.putfield 125, 3) := by decide +kernel
theorem dX9_readText_206 : decode cX9_readText 206 = .ok (.goto (-145), 3) := by decide +kernel
theorem dX9_readText_209 : decode cX9_readText 209 = .ok (.aload_n 0, 1) := by decide +kernel
theorem dX9_readText_210 : decode cX9_readText 210 = .ok (.getfield 96, 3) := by decide +kernel
theorem dX9_readText_213 : decode cX9_readText 213 = .ok (.ifCond .ne 7, 3) := by decide +kernel
theorem dX9_readText_216 : decode cX9_readText 216 = .ok (.iconst 1, 1) := by decide +kernel
theorem dX9_readText_217 : decode cX9_readText 217 = .ok (.goto 4, 3) := by decide +kernel
theorem dX9_readText_220 : decode cX9_readText 220 = .ok (.iconst 0, 1) := by decide +kernel
theorem dX9_readText_221 : decode cX9_readText 221 = .ok (.istore_n 1, 1) := by decide +kernel
theorem dX9_readText_222 : decode cX9_readText 222 = .ok (.iload_n 1, 1) := by decide +kernel
theorem dX9_readText_223 : decode cX9_readText 223 = .ok (.ifCond .eq 74, 3) := by decide +kernel
theorem dX9_readText_226 : decode cX9_readText 226 = .ok (.aload_n 0, 1) := by decide +kernel
theorem dX9_readText_227 : decode cX9_readText 227 = .ok (.getfield 96, 3) := by decide +kernel
theorem dX9_readText_230 : decode cX9_readText 230 = .ok (.ifCond .ne 67, 3) := by decide +kernel
theorem dX9_readText_233 : decode cX9_readText 233 = .ok (.aload_n 0, 1) := by decide +kernel
theorem dX9_readText_234 : decode cX9_readText 234 = .ok (.invokevirtual 106, 3) := by decide +kernel
theorem dX9_readText_237 : decode cX9_readText 237 = .ok (.istore_n 2, 1) := by decide +kernel
theorem dX9_readText_238 : decode cX9_readText 238 = .ok (.aload_n 0, 1) := by decide +kernel
theorem dX9_readText_239 : decode cX9_readText 239 = .ok (.getfield 99, 3) := by decide +kernel
theorem dX9_readText_242 : decode cX9_readText 242 = .ok (.bipush 8, 2) := by decide +kernel
theorem dX9_readText_244 : decode cX9_readText 244 = .ok (.irem, 1) := by decide +kernel
theorem dX9_readText_245 : decode cX9_readText 245 = .ok (.ifCond .ne 7, 3) := by decide +kernel
theorem dX9_readText_248 : decode cX9_readText 248 = .ok (.iconst 1, 1) := by decide +kernel
theorem dX9_readText_249 : decode cX9_readText 249 = .ok (.goto 4, 3) := by decide +kernel
theorem dX9_readText_252 : decode cX9_readText 252 = .ok (.iconst 0, 1) := by decide +kernel
theorem dX9_readText_253 : decode cX9_readText 253 = .ok (.istore_n 3, 1) := by decide +kernel
theorem dX9_readText_254 : decode cX9_readText 254 = .ok (.aload_n 0, 1) := by decide +kernel
theorem dX9_readText_255 : decode cX9_readText 255 = .ok (.getfield 96, 3) := by decide +kernel
theorem dX9_readText_258 : decode cX9_readText 258 = .ok (.ifCond .ne 26, 3) := by decide +kernel
theorem dX9_readText_261 : decode cX9_readText 261 = .ok (.iload_n 2, 1) := by decide +kernel
theorem dX9_readText_262 : decode cX9_readText 262 = .ok (.iload_n 3, 1) := by decide +kernel
theorem dX9_readText_263 : decode cX9_readText 263 = .ok (.ifCond .eq 7, 3) := by decide +kernel
theorem dX9_readText_266 : decode cX9_readText 266 = .ok (.iconst 1, 1) := by decide +kernel
theorem dX9_readText_267 : decode cX9_readText 267 = .ok (.goto 4, 3) := by decide +kernel
theorem dX9_readText_270 : decode cX9_readText 270 = .ok (.iconst 0, 1) := by decide +kernel
theorem dX9_readText_271 : decode cX9_readText 271 = .ok (.if_icmp .eq 13, 3) := by decide +kernel
theorem dX9_readText_274 : decode cX9_readText 274 = .ok (.aload_n 0, 1) := by decide +kernel
theorem dX9_readText_275 : decode cX9_readText 275 = .ok (.aload_n 0, 1) := by decide +kernel
theorem dX9_readText_276 : decode cX9_readText 276 = .ok (.getfield 99, 3) := by decide +kernel
theorem dX9_readText_279 : decode cX9_readText 279 = .ok (.iconst 1, 1) := by decide +kernel
theorem dX9_readText_280 : decode cX9_readText 280 = .ok (.isub, 1) := by decide +kernel
theorem dX9_readText_281 : decode cX9_readText 281 = .ok (.invokevirtual 102, 3) := by decide +kernel
theorem dX9_readText_284 : decode cX9_readText 284 = .ok (.iload_n 3, 1) := by decide +kernel
theorem dX9_readText_285 : decode cX9_readText 285 = .ok (.ifCond .ne 7, 3) := by decide +kernel
theorem dX9_readText_288 : decode cX9_readText 288 = .ok (.iconst 1, 1) := by decide +kernel
theorem dX9_readText_289 : decode cX9_readText 289 = .ok (.goto 4, 3) := by decide +kernel
theorem dX9_readText_292 : decode cX9_readText 292 = .ok (.iconst 0, 1) := by decide +kernel
theorem dX9_readText_293 : decode cX9_readText 293 = .ok (.istore_n 1, 1) := by decide +kernel
theorem dX9_readText_294 : decode cX9_readText 294 = .ok (.goto (-72), 3) := by decide +kernel
theorem dX9_readText_297 : decode cX9_readText 297 = .ok (.aload_n 0, 1) := by decide +kernel
theorem dX9_readText_298 : decode cX9_readText 298 = .ok (.getfield 96, 3) := by decide +kernel
theorem dX9_readText_301 : decode cX9_readText 301 = .ok (.ifCond .ne 25, 3) := by decide +kernel
theorem dX9_readText_304 : decode cX9_readText 304 = .ok (.aload_n 0, 1) := by decide +kernel
theorem dX9_readText_305 : decode cX9_readText 305 = .ok (.getfield 99, 3) := by decide +kernel
theorem dX9_readText_308 : decode cX9_readText 308 = .ok (.bipush 8, 2) := by decide +kernel
theorem dX9_readText_310 : decode cX9_readText 310 = .ok (.aload_n 0, 1) := by decide +kernel
theorem dX9_readText_311 : decode cX9_readText 311 = .ok (.getfield 93, 3) := by decide +kernel
theorem dX9_readText_314 : decode cX9_readText 314 = .ok (.imul, 1) := by decide +kernel
theorem dX9_readText_315 : decode cX9_readText 315 = .ok (.if_icmp .ge 11, 3) := by decide +kernel
theorem dX9_readText_318 : decode cX9_readText 318 = .ok (.aload_n 0, 1) := by decide +kernel
theorem dX9_readText_319 : decode cX9_readText 319 = .ok (.aload_n 0, 1) := by decide +kernel
theorem dX9_readText_320 : decode cX9_readText 320 = .ok (.getfield 99, 3) := by decide +kernel
theorem dX9_readText_323 : decode cX9_readText 323 = .ok (.invokevirtual 102, 3) := by decide +kernel
theorem dX9_readText_326 : decode cX9_readText 326 = .ok (.return_, 1) := by decide +kernel
theorem dX9_read_0 : decode cX9_read 0 = .ok (.aload_n 0, 1) := by decide +kernel
theorem dX9_read_1 : decode cX9_read 1 = .ok (.iconst 0, 1) := by decide +kernel
theorem dX9_read_2 : decode cX9_read 2 = .ok (.putfield 89, 3) := by decide +kernel
theorem dX9_read_5 : decode cX9_read 5 = .ok (.aload_n 0, 1) := by decide +kernel
theorem dX9_read_6 : decode cX9_read 6 = .ok (.invokevirtual 135, 3) := by decide +kernel
theorem dX9_read_9 : decode cX9_read 9 = .ok (.aload_n 0, 1) := by decide +kernel
theorem dX9_read_10 : decode cX9_read 10 = .ok (.iconst 0, 1) := by decide +kernel
theorem dX9_read_11 : decode cX9_read 11 = .ok (.putfield 93, 3) := by decide +kernel
theorem dX9_read_14 : decode cX9_read 14 = .ok (.aload_n 0, 1) := by decide +kernel
theorem dX9_read_15 : decode cX9_read 15 = .ok (.getfield 96, 3) := by decide +kernel
theorem dX9_read_18 : decode cX9_read 18 = .ok (.ifCond .ge 8, 3) := by decide +kernel
theorem dX9_read_21 : decode cX9_read 21 = .ok (.aload_n 0, 1) := by decide +kernel
theorem dX9_read_22 : decode cX9_read 22 = .ok (.getfield 96, 3) := by decide +kernel
theorem dX9_read_25 : decode cX9_read 25 = .ok (.ireturn, 1) := by decide +kernel
theorem dX9_read_26 : decode cX9_read 26 = .ok (.aload_n 0, 1) := by decide +kernel
theorem dX9_read_27 : decode cX9_read 27 = .ok (.aload_n 0, 1) := by decide +kernel
theorem dX9_read_28 : decode cX9_read 28 = .ok (.getfield 125, 3) := by decide +kernel
theorem dX9_read_31 : decode cX9_read 31 = .ok (.bipush 60, 2) := by decide +kernel
theorem dX9_read_33 : decode cX9_read 33 = .ok (.isub, 1) := by decide +kernel
theorem dX9_read_34 : decode cX9_read 34 = .ok (.putfield 138, 3) := by decide +kernel
theorem dX9_read_37 : decode cX9_read 37 = .ok (.aload_n 0, 1) := by decide +kernel
theorem dX9_read_38 : decode cX9_read 38 = .ok (.aload_n 0, 1) := by decide +kernel
theorem dX9_read_39 : decode cX9_read 39 = .ok (.getfield 128, 3) := by decide +kernel
theorem dX9_read_42 : decode cX9_read 42 = .ok (.putfield 141, 3) := by decide +kernel
theorem dX9_read_45 : decode cX9_read 45 = .ok (.iconst 0, 1) := by decide +kernel
theorem dX9_read_46 : decode cX9_read 46 = .ok (.istore_n 1, 1) := by decide +kernel
theorem dX9_read_47 : decode cX9_read 47 = .ok (.iload_n 1, 1) := by decide +kernel
theorem dX9_read_48 : decode cX9_read 48 = .ok (.aload_n 0, 1) := by decide +kernel
theorem dX9_read_49 : decode cX9_read 49 = .ok (.getfield 138, 3) := by decide +kernel
theorem dX9_read_52 : decode cX9_read 52 = .ok (.if_icmp .ge 105, 3) := by decide +kernel
theorem dX9_read_55 : decode cX9_read 55 = .ok (.aload_n 0, 1) := by decide +kernel
theorem dX9_read_56 : decode cX9_read 56 = .ok (.getfield 13, 3) := by decide +kernel
theorem dX9_read_59 : decode cX9_read 59 = .ok (.iload_n 1, 1) := by decide +kernel
theorem dX9_read_60 : decode cX9_read 60 = .ok (.aload_n 0, 1) := by decide +kernel
theorem dX9_read_61 : decode cX9_read 61 = .ok (.getfield 13, 3) := by decide +kernel
theorem dX9_read_64 : decode cX9_read 64 = .ok (.bipush 60, 2) := by decide +kernel
theorem dX9_read_66 : decode cX9_read 66 = .ok (.iload_n 1, 1) := by decide +kernel
theorem dX9_read_67 : decode cX9_read 67 = .ok (.iadd, 1) := by decide +kernel
theorem dX9_read_68 : decode cX9_read 68 = .ok (.iaload, 1) := by decide +kernel
theorem dX9_read_69 : decode cX9_read 69 = .ok (.iastore, 1) := by decide +kernel
theorem dX9_read_70 : decode cX9_read 70 = .ok (.aload_n 0, 1) := by decide +kernel
theorem dX9_read_71 : decode cX9_read 71 = .ok (.getfield 16, 3) := by decide +kernel
theorem dX9_read_74 : decode cX9_read 74 = .ok (.iload_n 1, 1) := by decide +kernel
theorem dX9_read_75 : decode cX9_read 75 = .ok (.aload_n 0, 1) := by decide +kernel
theorem dX9_read_76 : decode cX9_read 76 = .ok (.getfield 16, 3) := by decide +kernel
theorem dX9_read_79 : decode cX9_read 79 = .ok (.bipush 60, 2) := by decide +kernel
theorem dX9_read_81 : decode cX9_read 81 = .ok (.iload_n 1, 1) := by decide +kernel
theorem dX9_read_82 : decode cX9_read 82 = .ok (.iadd, 1) := by decide +kernel
theorem dX9_read_83 : decode cX9_read 83 = .ok (.iaload, 1) := by decide +kernel
theorem dX9_read_84 : decode cX9_read 84 = .ok (.iastore, 1) := by decide +kernel
theorem dX9_read_85 : decode cX9_read 85 = .ok (.aload_n 0, 1) := by decide +kernel
theorem dX9_read_86 : decode cX9_read 86 = .ok (.getfield 19, 3) := by decide +kernel
theorem dX9_read_89 : decode cX9_read 89 = .ok (.iload_n 1, 1) := by decide +kernel
theorem dX9_read_90 : decode cX9_read 90 = .ok (.aload_n 0, 1) := by decide +kernel
theorem dX9_read_91 : decode cX9_read 91 = .ok (.getfield 19, 3) := by decide +kernel
theorem dX9_read_94 : decode cX9_read 94 = .ok (.bipush 60, 2) := by decide +kernel
theorem dX9_read_96 : decode cX9_read 96 = .ok (.iload_n 1, 1) := by decide +kernel
theorem dX9_read_97 : decode cX9_read 97 = .ok (.iadd, 1) := by decide +kernel
theorem dX9_read_98 : decode cX9_read 98 = .ok (.iaload, 1) := by decide +kernel
theorem dX9_read_99 : decode cX9_read 99 = .ok (.iastore, 1) := by decide +kernel
theorem dX9_read_100 : decode cX9_read 100 = .ok (.aload_n 0, 1) := by decide +kernel
theorem dX9_read_101 : decode cX9_read 101 = .ok (.getfield 22, 3) := by decide +kernel
theorem dX9_read_104 : decode cX9_read 104 = .ok (.iload_n 1, 1) := by decide +kernel
theorem dX9_read_105 : decode cX9_read 105 = .ok (.aload_n 0, 1) := by decide +kernel
theorem dX9_read_106 : decode cX9_read 106 = .ok (.getfield 22, 3) := by decide +kernel
theorem dX9_read_109 : decode cX9_read 109 = .ok (.bipush 60, 2) := by decide +kernel
theorem dX9_read_111 : decode cX9_read 111 = .ok (.iload_n 1, 1) := by decide +kernel
theorem dX9_read_112 : decode cX9_read 112 = .ok (.iadd, 1) := by decide +kernel
theorem dX9_read_113 : decode cX9_read 113 = .ok (.laload, 1) := by decide +kernel
theorem dX9_read_114 : decode cX9_read 114 = .ok (.lastore, 1) := by decide +kernel
theorem dX9_read_115 : decode cX9_read 115 = .ok (.aload_n 0, 1) := by decide +kernel
theorem dX9_read_116 : decode cX9_read 116 = .ok (.getfield 26, 3) := by decide +kernel
theorem dX9_read_119 : decode cX9_read 119 = .ok (.iload_n 1, 1) := by decide +kernel
theorem dX9_read_120 : decode cX9_read 120 = .ok (.aload_n 0, 1) := by decide +kernel
theorem dX9_read_121 : decode cX9_read 121 = .ok (.getfield 26, 3) := by decide +kernel
theorem dX9_read_124 : decode cX9_read 124 = .ok (.bipush 60, 2) := by decide +kernel
theorem dX9_read_126 : decode cX9_read 126 = .ok (.iload_n 1, 1) := by decide +kernel
theorem dX9_read_127 : decode cX9_read 127 = .ok (.iadd, 1) := by decide +kernel
theorem dX9_read_128 : decode cX9_read 128 = .ok (.iaload, 1) := by decide +kernel
theorem dX9_read_129 : decode cX9_read 129 = .ok (.bipush 60, 2) := by decide +kernel
theorem dX9_read_131 : decode cX9_read 131 = .ok (.isub, 1) := by decide +kernel
theorem dX9_read_132 : decode cX9_read 132 = .ok (.iastore, 1) := by decide +kernel
theorem dX9_read_133 : decode cX9_read 133 = .ok (.aload_n 0, 1) := by decide +kernel
theorem dX9_read_134 : decode cX9_read 134 = .ok (.getfield 29, 3) := by decide +kernel
theorem dX9_read_137 : decode cX9_read 137 = .ok (.iload_n 1, 1) := by decide +kernel
theorem dX9_read_138 : decode cX9_read 138 = .ok (.aload_n 0, 1) := by decide +kernel
theorem dX9_read_139 : decode cX9_read 139 = .ok (.getfield 29, 3) := by decide +kernel
theorem dX9_read_142 : decode cX9_read 142 = .ok (.bipush 60, 2) := by decide +kernel
theorem dX9_read_144 : decode cX9_read 144 = .ok (.iload_n 1, 1) := by decide +kernel
theorem dX9_read_145 : decode cX9_read 145 = .ok (.iadd, 1) := by decide +kernel
theorem dX9_read_146 : decode cX9_read 146 = .ok (.iaload, 1) := by decide +kernel
theorem dX9_read_147 : decode cX9_read 147 = .ok (.bipush 60, 2) := by decide +kernel
theorem dX9_read_149 : decode cX9_read 149 = .ok (.isub, 1) := by decide +kernel
theorem dX9_read_150 : decode cX9_read 150 = .ok (.iastore, 1) := by decide +kernel
theorem dX9_read_151 : decode cX9_read 151 = .ok (.iinc 1 1, 3) := by decide +kernel
theorem dX9_read_154 : decode cX9_read 154 = .ok (.goto (-107), 3) := by decide +kernel
theorem dX9_read_157 : decode cX9_read 157 = .ok (.aload_n 0, 1) := by decide +kernel
theorem dX9_read_158 : decode cX9_read 158 = .ok (.iconst 0, 1) := by decide +kernel
theorem dX9_read_159 : decode cX9_read 159 = .ok (.putfield 144, 3) := by decide +kernel
theorem dX9_read_162 : decode cX9_read 162 = .ok (.aload_n 0, 1) := by decide +kernel
theorem dX9_read_163 : decode cX9_read 163 = .ok (.invokevirtual 147, 3) := by decide +kernel
theorem dX9_read_166 : decode cX9_read 166 = .ok (.aload_n 0, 1) := by decide +kernel
theorem dX9_read_167 : decode cX9_read 167 = .ok (.getfield 138, 3) := by decide +kernel
theorem dX9_read_170 : decode cX9_read 170 = .ok (.ireturn, 1) := by decide +kernel
theorem dX9_nothing_0 : decode cX9_nothing 0 = .ok (.aload_n 0, 1) := by decide +kernel
theorem dX9_nothing_1 : decode cX9_nothing 1 = .ok (.iconst 0, 1) := by decide +kernel
theorem dX9_nothing_2 : decode cX9_nothing 2 = .ok (.putfield 150, 3) := by decide +kernel
theorem dX9_nothing_5 : decode cX9_nothing 5 = .ok (.aload_n 0, 1) := by decide +kernel
theorem dX9_nothing_6 : decode cX9_nothing 6 = .ok (.iconst 0, 1) := by decide +kernel
theorem dX9_nothing_7 : decode cX9_nothing 7 = .ok (.putfield 153, 3) := by decide +kernel
theorem dX9_nothing_10 : decode cX9_nothing 10 = .ok (.aload_n 0, 1) := by decide +kernel
theorem dX9_nothing_11 : decode cX9_nothing 11 = .ok (.iconst 0, 1) := by decide +kernel
theorem dX9_nothing_12 : decode cX9_nothing 12 = .ok (.putfield 156, 3) := by decide +kernel
theorem dX9_nothing_15 : decode cX9_nothing 15 = .ok (.aload_n 0, 1) := by decide +kernel
theorem dX9_nothing_16 : decode cX9_nothing 16 = .ok (.iconst 0, 1) := by decide +kernel
theorem dX9_nothing_17 : decode cX9_nothing 17 = .ok (.putfield 159, 3) := by decide +kernel
theorem dX9_nothing_20 : decode cX9_nothing 20 = .ok (.aload_n 0, 1) := by decide +kernel
theorem dX9_nothing_21 : decode cX9_nothing 21 = .ok (.iconst 0, 1) := by decide +kernel
theorem dX9_nothing_22 : decode cX9_nothing 22 = .ok (.putfield 162, 3) := by decide +kernel
theorem dX9_nothing_25 : decode cX9_nothing 25 = .ok (.aload_n 0, 1) := by decide +kernel
theorem dX9_nothing_26 : decode cX9_nothing 26 = .ok (.iconst 0, 1) := by decide +kernel
theorem dX9_nothing_27 : decode cX9_nothing 27 = .ok (.putfield 165, 3) := by decide +kernel
theorem dX9_nothing_30 : decode cX9_nothing 30 = .ok (.aload_n 0, 1) := by decide +kernel
theorem dX9_nothing_31 : decode cX9_nothing 31 = .ok (.iconst 0, 1) := by decide +kernel
theorem dX9_nothing_32 : decode cX9_nothing 32 = .ok (.putfield 168, 3) := by decide +kernel
theorem dX9_nothing_35 : decode cX9_nothing 35 = .ok (.return_, 1) := by decide +kernel
theorem dX9_begin_0 : decode cX9_begin 0 = .ok (.aload_n 0, 1) := by decide +kernel
theorem dX9_begin_1 : decode cX9_begin 1 = .ok (.iload_n 1, 1) := by decide +kernel
theorem dX9_begin_2 : decode cX9_begin 2 = .ok (.ifCond .lt 9, 3) := by decide +kernel
theorem dX9_begin_5 : decode cX9_begin 5 = .ok (.iload_n 1, 1) := by decide +kernel
theorem dX9_begin_6 : decode cX9_begin 6 = .ok (.ldc 171, 2) := by decide +kernel
theorem dX9_begin_8 : decode cX9_begin 8 = .ok (.if_icmp .le 7, 3) := by decide +kernel
theorem dX9_begin_11 : decode cX9_begin 11 = .ok (.iconst 1, 1) := by decide +kernel
theorem dX9_begin_12 : decode cX9_begin 12 = .ok (.goto 15, 3) := by decide +kernel
theorem dX9_begin_15 : decode cX9_begin 15 = .ok (.aload_n 0, 1) := by decide +kernel
theorem dX9_begin_16 : decode cX9_begin 16 = .ok (.getfield 138, 3) := by decide +kernel
theorem dX9_begin_19 : decode cX9_begin 19 = .ok (.ifCond .ne 7, 3) := by decide +kernel
theorem dX9_begin_22 : decode cX9_begin 22 = .ok (.iconst 2, 1) := by decide +kernel
theorem dX9_begin_23 : decode cX9_begin 23 = .ok (.goto 4, 3) := by decide +kernel
theorem dX9_begin_26 : decode cX9_begin 26 = .ok (.iconst 0, 1) := by decide +kernel
theorem dX9_begin_27 : decode cX9_begin 27 = .ok (.putfield 89, 3) := by decide +kernel
theorem dX9_begin_30 : decode cX9_begin 30 = .ok (.aload_n 0, 1) := by decide +kernel
theorem dX9_begin_31 : decode cX9_begin 31 = .ok (.getfield 89, 3) := by decide +kernel
theorem dX9_begin_34 : decode cX9_begin 34 = .ok (.ifCond .le 5, 3) := by decide +kernel
theorem dX9_begin_37 : decode cX9_begin 37 = .ok (.iconst 0, 1) := by decide +kernel
theorem dX9_begin_38 : decode cX9_begin 38 = .ok (.ireturn, 1) := by decide +kernel
theorem dX9_begin_39 : decode cX9_begin 39 = .ok (.aload_n 0, 1) := by decide +kernel
theorem dX9_begin_40 : decode cX9_begin 40 = .ok (.invokevirtual 147, 3) := by decide +kernel
theorem dX9_begin_43 : decode cX9_begin 43 = .ok (.aload_n 0, 1) := by decide +kernel
theorem dX9_begin_44 : decode cX9_begin 44 = .ok (.iload_n 1, 1) := by decide +kernel
theorem dX9_begin_45 : decode cX9_begin 45 = .ok (.putfield 172, 3) := by decide +kernel
theorem dX9_begin_48 : decode cX9_begin 48 = .ok (.aload_n 0, 1) := by decide +kernel
theorem dX9_begin_49 : decode cX9_begin 49 = .ok (.iconst 1, 1) := by decide +kernel
theorem dX9_begin_50 : decode cX9_begin 50 = .ok (.putfield 144, 3) := by decide +kernel
theorem dX9_begin_53 : decode cX9_begin 53 = .ok (.aload_n 0, 1) := by decide +kernel
theorem dX9_begin_54 : decode cX9_begin 54 = .ok (.iconst 0, 1) := by decide +kernel
theorem dX9_begin_55 : decode cX9_begin 55 = .ok (.putfield 175, 3) := by decide +kernel
theorem dX9_begin_58 : decode cX9_begin 58 = .ok (.aload_n 0, 1) := by decide +kernel
theorem dX9_begin_59 : decode cX9_begin 59 = .ok (.iconst (-1), 1) := by decide +kernel
theorem dX9_begin_60 : decode cX9_begin 60 = .ok (.putfield 178, 3) := by decide +kernel
theorem dX9_begin_63 : decode cX9_begin 63 = .ok (.iconst 1, 1) := by decide +kernel
theorem dX9_begin_64 : decode cX9_begin 64 = .ok (.ireturn, 1) := by decide +kernel
theorem dX9_newValue_0 : decode cX9_newValue 0 = .ok (.aload_n 0, 1) := by decide +kernel
theorem dX9_newValue_1 : decode cX9_newValue 1 = .ok (.getfield 41, 3) := by decide +kernel
theorem dX9_newValue_4 : decode cX9_newValue 4 = .ok (.aload_n 0, 1) := by decide +kernel
theorem dX9_newValue_5 : decode cX9_newValue 5 = .ok (.getfield 150, 3) := by decide +kernel
theorem dX9_newValue_8 : decode cX9_newValue 8 = .ok (.iload_n 1, 1) := by decide +kernel
theorem dX9_newValue_9 : decode cX9_newValue 9 = .ok (.iastore, 1) := by decide +kernel
theorem dX9_newValue_10 : decode cX9_newValue 10 = .ok (.aload_n 0, 1) := by decide +kernel
theorem dX9_newValue_11 : decode cX9_newValue 11 = .ok (.getfield 44, 3) := by decide +kernel
theorem dX9_newValue_14 : decode cX9_newValue 14 = .ok (.aload_n 0, 1) := by decide +kernel
theorem dX9_newValue_15 : decode cX9_newValue 15 = .ok (.getfield 150, 3) := by decide +kernel
theorem dX9_newValue_18 : decode cX9_newValue 18 = .ok (.iload_n 2, 1) := by decide +kernel
theorem dX9_newValue_19 : decode cX9_newValue 19 = .ok (.iastore, 1) := by decide +kernel
theorem dX9_newValue_20 : decode cX9_newValue 20 = .ok (.aload_n 0, 1) := by decide +kernel
theorem dX9_newValue_21 : decode cX9_newValue 21 = .ok (.getfield 47, 3) := by decide +kernel
theorem dX9_newValue_24 : decode cX9_newValue 24 = .ok (.aload_n 0, 1) := by decide +kernel
theorem dX9_newValue_25 : decode cX9_newValue 25 = .ok (.getfield 150, 3) := by decide +kernel
theorem dX9_newValue_28 : decode cX9_newValue 28 = .ok (.lconst 0, 1) := by decide +kernel
theorem dX9_newValue_29 : decode cX9_newValue 29 = .ok (.lastore, 1) := by decide +kernel
theorem dX9_newValue_30 : decode cX9_newValue 30 = .ok (.aload_n 0, 1) := by decide +kernel
theorem dX9_newValue_31 : decode cX9_newValue 31 = .ok (.getfield 50, 3) := by decide +kernel
theorem dX9_newValue_34 : decode cX9_newValue 34 = .ok (.aload_n 0, 1) := by decide +kernel
theorem dX9_newValue_35 : decode cX9_newValue 35 = .ok (.getfield 150, 3) := by decide +kernel
theorem dX9_newValue_38 : decode cX9_newValue 38 = .ok (.iload_n 3, 1) := by decide +kernel
theorem dX9_newValue_39 : decode cX9_newValue 39 = .ok (.iastore, 1) := by decide +kernel
theorem dX9_newValue_40 : decode cX9_newValue 40 = .ok (.aload_n 0, 1) := by decide +kernel
theorem dX9_newValue_41 : decode cX9_newValue 41 = .ok (.getfield 53, 3) := by decide +kernel
theorem dX9_newValue_44 : decode cX9_newValue 44 = .ok (.aload_n 0, 1) := by decide +kernel
theorem dX9_newValue_45 : decode cX9_newValue 45 = .ok (.getfield 150, 3) := by decide +kernel
theorem dX9_newValue_48 : decode cX9_newValue 48 = .ok (.iload 4, 2) := by decide +kernel
theorem dX9_newValue_50 : decode cX9_newValue 50 = .ok (.iastore, 1) := by decide +kernel
theorem dX9_newValue_51 : decode cX9_newValue 51 = .ok (.aload_n 0, 1) := by decide +kernel
theorem dX9_newValue_52 : decode cX9_newValue 52 = .ok (.getfield 56, 3) := by decide +kernel
theorem dX9_newValue_55 : decode cX9_newValue 55 = .ok (.aload_n 0, 1) := by decide +kernel
theorem dX9_newValue_56 : decode cX9_newValue 56 = .ok (.getfield 150, 3) := by decide +kernel
theorem dX9_newValue_59 : decode cX9_newValue 59 = .ok (.iconst 0, 1) := by decide +kernel
theorem dX9_newValue_60 : decode cX9_newValue 60 = .ok (.iastore, 1) := by decide +kernel
theorem dX9_newValue_61 : decode cX9_newValue 61 = .ok (.aload_n 0, 1) := by decide +kernel
theorem dX9_newValue_62 : decode cX9_newValue 62 = .ok (.dup, 1) := by decide +kernel
theorem dX9_newValue_63 : decode cX9_newValue 63 = .ok (.getfield 150, 3) := by decide +kernel
theorem dX9_newValue_66 : decode cX9_newValue 66 = .ok (.iconst 1, 1) := by decide +kernel
theorem dX9_newValue_67 : decode cX9_newValue 67 = .ok (.iadd, 1) := by decide +kernel
theorem dX9_newValue_68 : decode cX9_newValue 68 = .ok (.putfield 150, 3) := by decide +kernel
theorem dX9_newValue_71 : decode cX9_newValue 71 = .ok (.aload_n 0, 1) := by decide +kernel
theorem dX9_newValue_72 : decode cX9_newValue 72 = .ok (.getfield 150, 3) := by decide +kernel
theorem dX9_newValue_75 : decode cX9_newValue 75 = .ok (.iconst 1, 1) := by decide +kernel
theorem dX9_newValue_76 : decode cX9_newValue 76 = .ok (.isub, 1) := by decide +kernel
theorem dX9_newValue_77 : decode cX9_newValue 77 = .ok (.ireturn, 1) := by decide +kernel
theorem dX9_newBytes_0 : decode cX9_newBytes 0 = .ok (.aload_n 0, 1) := by decide +kernel
theorem dX9_newBytes_1 : decode cX9_newBytes 1 = .ok (.iconst 3, 1) := by decide +kernel
theorem dX9_newBytes_2 : decode cX9_newBytes 2 = .ok (.iload_n 1, 1) := by decide +kernel
theorem dX9_newBytes_3 : decode cX9_newBytes 3 = .ok (.iconst 0, 1) := by decide +kernel
theorem dX9_newBytes_4 : decode cX9_newBytes 4 = .ok (.iconst 0, 1) := by decide +kernel
theorem dX9_newBytes_5 : decode cX9_newBytes 5 = .ok (.invokevirtual 181, 3) := by decide +kernel
theorem dX9_newBytes_8 : decode cX9_newBytes 8 = .ok (.istore 4, 2) := by decide +kernel
theorem dX9_newBytes_10 : decode cX9_newBytes 10 = .ok (.aload_n 0, 1) := by decide +kernel
theorem dX9_newBytes_11 : decode cX9_newBytes 11 = .ok (.getfield 47, 3) := by decide +kernel
theorem dX9_newBytes_14 : decode cX9_newBytes 14 = .ok (.iload 4, 2) := by decide +kernel
theorem dX9_newBytes_16 : decode cX9_newBytes 16 = .ok (.lload_n 2, 1) := by decide +kernel
theorem dX9_newBytes_17 : decode cX9_newBytes 17 = .ok (.lastore, 1) := by decide +kernel
theorem dX9_newBytes_18 : decode cX9_newBytes 18 = .ok (.iload 4, 2) := by decide +kernel
theorem dX9_newBytes_20 : decode cX9_newBytes 20 = .ok (.ireturn, 1) := by decide +kernel
theorem dX9_forcesOf_0 : decode cX9_forcesOf 0 = .ok (.iload_n 0, 1) := by decide +kernel
theorem dX9_forcesOf_1 : decode cX9_forcesOf 1 = .ok (.bipush 6, 2) := by decide +kernel
theorem dX9_forcesOf_3 : decode cX9_forcesOf 3 = .ok (.if_icmp .eq 9, 3) := by decide +kernel
theorem dX9_forcesOf_6 : decode cX9_forcesOf 6 = .ok (.iload_n 0, 1) := by decide +kernel
theorem dX9_forcesOf_7 : decode cX9_forcesOf 7 = .ok (.bipush 10, 2) := by decide +kernel
theorem dX9_forcesOf_9 : decode cX9_forcesOf 9 = .ok (.if_icmp .ne 7, 3) := by decide +kernel
theorem dX9_forcesOf_12 : decode cX9_forcesOf 12 = .ok (.iconst 1, 1) := by decide +kernel
theorem dX9_forcesOf_13 : decode cX9_forcesOf 13 = .ok (.goto 4, 3) := by decide +kernel
theorem dX9_forcesOf_16 : decode cX9_forcesOf 16 = .ok (.iconst 0, 1) := by decide +kernel
theorem dX9_forcesOf_17 : decode cX9_forcesOf 17 = .ok (.ireturn, 1) := by decide +kernel
theorem dX9_argumentsOf_0 : decode cX9_argumentsOf 0 = .ok (.iload_n 0, 1) := by decide +kernel
theorem dX9_argumentsOf_1 : decode cX9_argumentsOf 1 = .ok (.bipush 6, 2) := by decide +kernel
theorem dX9_argumentsOf_3 : decode cX9_argumentsOf 3 = .ok (.if_icmp .ne 7, 3) := by decide +kernel
theorem dX9_argumentsOf_6 : decode cX9_argumentsOf 6 = .ok (.iconst 3, 1) := by decide +kernel
theorem dX9_argumentsOf_7 : decode cX9_argumentsOf 7 = .ok (.goto 14, 3) := by decide +kernel
theorem dX9_argumentsOf_10 : decode cX9_argumentsOf 10 = .ok (.iload_n 0, 1) := by decide +kernel
theorem dX9_argumentsOf_11 : decode cX9_argumentsOf 11 = .ok (.bipush 8, 2) := by decide +kernel
theorem dX9_argumentsOf_13 : decode cX9_argumentsOf 13 = .ok (.if_icmp .ne 7, 3) := by decide +kernel
theorem dX9_argumentsOf_16 : decode cX9_argumentsOf 16 = .ok (.iconst 1, 1) := by decide +kernel
theorem dX9_argumentsOf_17 : decode cX9_argumentsOf 17 = .ok (.goto 4, 3) := by decide +kernel
theorem dX9_argumentsOf_20 : decode cX9_argumentsOf 20 = .ok (.iconst 2, 1) := by decide +kernel
theorem dX9_argumentsOf_21 : decode cX9_argumentsOf 21 = .ok (.ireturn, 1) := by decide +kernel
theorem dX9_wantsForce_0 : decode cX9_wantsForce 0 = .ok (.aload_n 0, 1) := by decide +kernel
theorem dX9_wantsForce_1 : decode cX9_wantsForce 1 = .ok (.getfield 41, 3) := by decide +kernel
theorem dX9_wantsForce_4 : decode cX9_wantsForce 4 = .ok (.iload_n 1, 1) := by decide +kernel
theorem dX9_wantsForce_5 : decode cX9_wantsForce 5 = .ok (.iaload, 1) := by decide +kernel
theorem dX9_wantsForce_6 : decode cX9_wantsForce 6 = .ok (.bipush 6, 2) := by decide +kernel
theorem dX9_wantsForce_8 : decode cX9_wantsForce 8 = .ok (.if_icmp .ne 25, 3) := by decide +kernel
theorem dX9_wantsForce_11 : decode cX9_wantsForce 11 = .ok (.aload_n 0, 1) := by decide +kernel
theorem dX9_wantsForce_12 : decode cX9_wantsForce 12 = .ok (.getfield 53, 3) := by decide +kernel
theorem dX9_wantsForce_15 : decode cX9_wantsForce 15 = .ok (.iload_n 1, 1) := by decide +kernel
theorem dX9_wantsForce_16 : decode cX9_wantsForce 16 = .ok (.iaload, 1) := by decide +kernel
theorem dX9_wantsForce_17 : decode cX9_wantsForce 17 = .ok (.aload_n 0, 1) := by decide +kernel
theorem dX9_wantsForce_18 : decode cX9_wantsForce 18 = .ok (.getfield 50, 3) := by decide +kernel
theorem dX9_wantsForce_21 : decode cX9_wantsForce 21 = .ok (.iload_n 1, 1) := by decide +kernel
theorem dX9_wantsForce_22 : decode cX9_wantsForce 22 = .ok (.iaload, 1) := by decide +kernel
theorem dX9_wantsForce_23 : decode cX9_wantsForce 23 = .ok (.invokestatic 185, 3) := by decide +kernel
theorem dX9_wantsForce_26 : decode cX9_wantsForce 26 = .ok (.if_icmp .ge 7, 3) := by decide +kernel
theorem dX9_wantsForce_29 : decode cX9_wantsForce 29 = .ok (.iconst 1, 1) := by decide +kernel
theorem dX9_wantsForce_30 : decode cX9_wantsForce 30 = .ok (.goto 4, 3) := by decide +kernel
theorem dX9_wantsForce_33 : decode cX9_wantsForce 33 = .ok (.iconst 0, 1) := by decide +kernel
theorem dX9_wantsForce_34 : decode cX9_wantsForce 34 = .ok (.ireturn, 1) := by decide +kernel
theorem dX9_wantsArgument_0 : decode cX9_wantsArgument 0 = .ok (.aload_n 0, 1) := by decide +kernel
theorem dX9_wantsArgument_1 : decode cX9_wantsArgument 1 = .ok (.getfield 41, 3) := by decide +kernel
theorem dX9_wantsArgument_4 : decode cX9_wantsArgument 4 = .ok (.iload_n 1, 1) := by decide +kernel
theorem dX9_wantsArgument_5 : decode cX9_wantsArgument 5 = .ok (.iaload, 1) := by decide +kernel
theorem dX9_wantsArgument_6 : decode cX9_wantsArgument 6 = .ok (.bipush 6, 2) := by decide +kernel
theorem dX9_wantsArgument_8 : decode cX9_wantsArgument 8 = .ok (.if_icmp .ne 33, 3) := by decide +kernel
theorem dX9_wantsArgument_11 : decode cX9_wantsArgument 11 = .ok (.aload_n 0, 1) := by decide +kernel
theorem dX9_wantsArgument_12 : decode cX9_wantsArgument 12 = .ok (.iload_n 1, 1) := by decide +kernel
theorem dX9_wantsArgument_13 : decode cX9_wantsArgument 13 = .ok (.invokevirtual 188, 3) := by decide +kernel
theorem dX9_wantsArgument_16 : decode cX9_wantsArgument 16 = .ok (.ifCond .ne 25, 3) := by decide +kernel
theorem dX9_wantsArgument_19 : decode cX9_wantsArgument 19 = .ok (.aload_n 0, 1) := by decide +kernel
theorem dX9_wantsArgument_20 : decode cX9_wantsArgument 20 = .ok (.getfield 56, 3) := by decide +kernel
theorem dX9_wantsArgument_23 : decode cX9_wantsArgument 23 = .ok (.iload_n 1, 1) := by decide +kernel
theorem dX9_wantsArgument_24 : decode cX9_wantsArgument 24 = .ok (.iaload, 1) := by decide +kernel
theorem dX9_wantsArgument_25 : decode cX9_wantsArgument 25 = .ok (.aload_n 0, 1) := by decide +kernel
theorem dX9_wantsArgument_26 : decode cX9_wantsArgument 26 = .ok (.getfield 50, 3) := by decide +kernel
theorem dX9_wantsArgument_29 : decode cX9_wantsArgument 29 = .ok (.iload_n 1, 1) := by decide +kernel
theorem dX9_wantsArgument_30 : decode cX9_wantsArgument 30 = .ok (.iaload, 1) := by decide +kernel
theorem dX9_wantsArgument_31 : decode cX9_wantsArgument 31 = .ok (.invokestatic 192, 3) := by decide +kernel
theorem dX9_wantsArgument_34 : decode cX9_wantsArgument 34 = .ok (.if_icmp .ge 7, 3) := by decide +kernel
theorem dX9_wantsArgument_37 : decode cX9_wantsArgument 37 = .ok (.iconst 1, 1) := by decide +kernel
theorem dX9_wantsArgument_38 : decode cX9_wantsArgument 38 = .ok (.goto 4, 3) := by decide +kernel
theorem dX9_wantsArgument_41 : decode cX9_wantsArgument 41 = .ok (.iconst 0, 1) := by decide +kernel
theorem dX9_wantsArgument_42 : decode cX9_wantsArgument 42 = .ok (.ireturn, 1) := by decide +kernel
theorem dX9_argument_0 : decode cX9_argument 0 = .ok (.iload_n 3, 1) := by decide +kernel
theorem dX9_argument_1 : decode cX9_argument 1 = .ok (.aload_n 0, 1) := by decide +kernel
theorem dX9_argument_2 : decode cX9_argument 2 = .ok (.getfield 56, 3) := by decide +kernel
theorem dX9_argument_5 : decode cX9_argument 5 = .ok (.iload_n 1, 1) := by decide +kernel
theorem dX9_argument_6 : decode cX9_argument 6 = .ok (.iaload, 1) := by decide +kernel
theorem dX9_argument_7 : decode cX9_argument 7 = .ok (.if_icmp .ge 16, 3) := by decide +kernel
theorem dX9_argument_10 : decode cX9_argument 10 = .ok (.aload_n 0, 1) := by decide +kernel
theorem dX9_argument_11 : decode cX9_argument 11 = .ok (.getfield 59, 3) := by decide +kernel
theorem dX9_argument_14 : decode cX9_argument 14 = .ok (.iconst 3, 1) := by decide +kernel
theorem dX9_argument_15 : decode cX9_argument 15 = .ok (.iload_n 1, 1) := by decide +kernel
theorem dX9_argument_16 : decode cX9_argument 16 = .ok (.imul, 1) := by decide +kernel
theorem dX9_argument_17 : decode cX9_argument 17 = .ok (.iload_n 3, 1) := by decide +kernel
theorem dX9_argument_18 : decode cX9_argument 18 = .ok (.iadd, 1) := by decide +kernel
theorem dX9_argument_19 : decode cX9_argument 19 = .ok (.iaload, 1) := by decide +kernel
theorem dX9_argument_20 : decode cX9_argument 20 = .ok (.goto 4, 3) := by decide +kernel
theorem dX9_argument_23 : decode cX9_argument 23 = .ok (.iload_n 2, 1) := by decide +kernel
theorem dX9_argument_24 : decode cX9_argument 24 = .ok (.ireturn, 1) := by decide +kernel
theorem dX9_wanted_0 : decode cX9_wanted 0 = .ok (.iload_n 0, 1) := by decide +kernel
theorem dX9_wanted_1 : decode cX9_wanted 1 = .ok (.bipush 6, 2) := by decide +kernel
theorem dX9_wanted_3 : decode cX9_wanted 3 = .ok (.if_icmp .ne 13, 3) := by decide +kernel
theorem dX9_wanted_6 : decode cX9_wanted 6 = .ok (.iload_n 1, 1) := by decide +kernel
theorem dX9_wanted_7 : decode cX9_wanted 7 = .ok (.ifCond .ne 7, 3) := by decide +kernel
theorem dX9_wanted_10 : decode cX9_wanted 10 = .ok (.iconst 1, 1) := by decide +kernel
theorem dX9_wanted_11 : decode cX9_wanted 11 = .ok (.goto 4, 3) := by decide +kernel
theorem dX9_wanted_14 : decode cX9_wanted 14 = .ok (.iconst (-1), 1) := by decide +kernel
theorem dX9_wanted_15 : decode cX9_wanted 15 = .ok (.ireturn, 1) := by decide +kernel
theorem dX9_wanted_16 : decode cX9_wanted 16 = .ok (.iload_n 0, 1) := by decide +kernel
theorem dX9_wanted_17 : decode cX9_wanted 17 = .ok (.bipush 10, 2) := by decide +kernel
theorem dX9_wanted_19 : decode cX9_wanted 19 = .ok (.if_icmp .ne 13, 3) := by decide +kernel
theorem dX9_wanted_22 : decode cX9_wanted 22 = .ok (.iload_n 1, 1) := by decide +kernel
theorem dX9_wanted_23 : decode cX9_wanted 23 = .ok (.ifCond .ne 7, 3) := by decide +kernel
theorem dX9_wanted_26 : decode cX9_wanted 26 = .ok (.iconst 2, 1) := by decide +kernel
theorem dX9_wanted_27 : decode cX9_wanted 27 = .ok (.goto 4, 3) := by decide +kernel
theorem dX9_wanted_30 : decode cX9_wanted 30 = .ok (.iconst (-1), 1) := by decide +kernel
theorem dX9_wanted_31 : decode cX9_wanted 31 = .ok (.ireturn, 1) := by decide +kernel
theorem dX9_wanted_32 : decode cX9_wanted 32 = .ok (.iload_n 0, 1) := by decide +kernel
theorem dX9_wanted_33 : decode cX9_wanted 33 = .ok (.bipush 6, 2) := by decide +kernel
theorem dX9_wanted_35 : decode cX9_wanted 35 = .ok (.if_icmp .ge 7, 3) := by decide +kernel
theorem dX9_wanted_38 : decode cX9_wanted 38 = .ok (.iconst 0, 1) := by decide +kernel
theorem dX9_wanted_39 : decode cX9_wanted 39 = .ok (.goto 19, 3) := by decide +kernel
theorem dX9_wanted_42 : decode cX9_wanted 42 = .ok (.iload_n 0, 1) := by decide +kernel
theorem dX9_wanted_43 : decode cX9_wanted 43 = .ok (.bipush 9, 2) := by decide +kernel
theorem dX9_wanted_45 : decode cX9_wanted 45 = .ok (.if_icmp .ne 12, 3) := by decide +kernel
theorem dX9_wanted_48 : decode cX9_wanted 48 = .ok (.iload_n 1, 1) := by decide +kernel
theorem dX9_wanted_49 : decode cX9_wanted 49 = .ok (.iconst 1, 1) := by decide +kernel
theorem dX9_wanted_50 : decode cX9_wanted 50 = .ok (.if_icmp .ne 7, 3) := by decide +kernel
theorem dX9_wanted_53 : decode cX9_wanted 53 = .ok (.iconst 0, 1) := by decide +kernel
theorem dX9_wanted_54 : decode cX9_wanted 54 = .ok (.goto 4, 3) := by decide +kernel
theorem dX9_wanted_57 : decode cX9_wanted 57 = .ok (.iconst 3, 1) := by decide +kernel
theorem dX9_wanted_58 : decode cX9_wanted 58 = .ok (.ireturn, 1) := by decide +kernel
theorem dX9_fits_0 : decode cX9_fits 0 = .ok (.aload_n 0, 1) := by decide +kernel
theorem dX9_fits_1 : decode cX9_fits 1 = .ok (.getfield 50, 3) := by decide +kernel
theorem dX9_fits_4 : decode cX9_fits 4 = .ok (.iload_n 1, 1) := by decide +kernel
theorem dX9_fits_5 : decode cX9_fits 5 = .ok (.iaload, 1) := by decide +kernel
theorem dX9_fits_6 : decode cX9_fits 6 = .ok (.istore_n 3, 1) := by decide +kernel
theorem dX9_fits_7 : decode cX9_fits 7 = .ok (.iconst 1, 1) := by decide +kernel
theorem dX9_fits_8 : decode cX9_fits 8 = .ok (.istore 4, 2) := by decide +kernel
theorem dX9_fits_10 : decode cX9_fits 10 = .ok (.iconst 0, 1) := by decide +kernel
theorem dX9_fits_11 : decode cX9_fits 11 = .ok (.istore 5, 2) := by decide +kernel
theorem dX9_fits_13 : decode cX9_fits 13 = .ok (.iload 5, 2) := by decide +kernel
theorem dX9_fits_15 : decode cX9_fits 15 = .ok (.iload_n 3, 1) := by decide +kernel
theorem dX9_fits_16 : decode cX9_fits 16 = .ok (.invokestatic 192, 3) := by decide +kernel
theorem dX9_fits_19 : decode cX9_fits 19 = .ok (.if_icmp .ge 53, 3) := by decide +kernel
theorem dX9_fits_22 : decode cX9_fits 22 = .ok (.iload 4, 2) := by decide +kernel
theorem dX9_fits_24 : decode cX9_fits 24 = .ok (.ifCond .eq 39, 3) := by decide +kernel
theorem dX9_fits_27 : decode cX9_fits 27 = .ok (.iload_n 3, 1) := by decide +kernel
theorem dX9_fits_28 : decode cX9_fits 28 = .ok (.iload 5, 2) := by decide +kernel
theorem dX9_fits_30 : decode cX9_fits 30 = .ok (.invokestatic 195, 3) := by decide +kernel
theorem dX9_fits_33 : decode cX9_fits 33 = .ok (.iconst (-1), 1) := by decide +kernel
theorem dX9_fits_34 : decode cX9_fits 34 = .ok (.if_icmp .eq 25, 3) := by decide +kernel
theorem dX9_fits_37 : decode cX9_fits 37 = .ok (.aload_n 0, 1) := by decide +kernel
theorem dX9_fits_38 : decode cX9_fits 38 = .ok (.getfield 41, 3) := by decide +kernel
theorem dX9_fits_41 : decode cX9_fits 41 = .ok (.aload_n 0, 1) := by decide +kernel
theorem dX9_fits_42 : decode cX9_fits 42 = .ok (.iload_n 1, 1) := by decide +kernel
theorem dX9_fits_43 : decode cX9_fits 43 = .ok (.iload_n 2, 1) := by decide +kernel
theorem dX9_fits_44 : decode cX9_fits 44 = .ok (.iload 5, 2) := by decide +kernel
theorem dX9_fits_46 : decode cX9_fits 46 = .ok (.invokevirtual 199, 3) := by decide +kernel
theorem dX9_fits_49 : decode cX9_fits 49 = .ok (.iaload, 1) := by decide +kernel
theorem dX9_fits_50 : decode cX9_fits 50 = .ok (.iload_n 3, 1) := by decide +kernel
theorem dX9_fits_51 : decode cX9_fits 51 = .ok (.iload 5, 2) := by decide +kernel
theorem dX9_fits_53 : decode cX9_fits 53 = .ok (.invokestatic 195, 3) := by decide +kernel
theorem dX9_fits_56 : decode cX9_fits 56 = .ok (.if_icmp .ne 7, 3) := by decide +kernel
theorem dX9_fits_59 : decode cX9_fits 59 = .ok (.iconst 1, 1) := by decide +kernel
theorem dX9_fits_60 : decode cX9_fits 60 = .ok (.goto 4, 3) := by decide +kernel
theorem dX9_fits_63 : decode cX9_fits 63 = .ok (.iconst 0, 1) := by decide +kernel
theorem dX9_fits_64 : decode cX9_fits 64 = .ok (.istore 4, 2) := by decide +kernel
theorem dX9_fits_66 : decode cX9_fits 66 = .ok (.iinc 5 1, 3) := by decide +kernel
theorem dX9_fits_69 : decode cX9_fits 69 = .ok (.goto (-56), 3) := by decide +kernel
theorem dX9_fits_72 : decode cX9_fits 72 = .ok (.iload 4, 2) := by decide +kernel
theorem dX9_fits_74 : decode cX9_fits 74 = .ok (.ireturn, 1) := by decide +kernel
theorem dX9_price_0 : decode cX9_price 0 = .ok (.aload_n 0, 1) := by decide +kernel
theorem dX9_price_1 : decode cX9_price 1 = .ok (.getfield 50, 3) := by decide +kernel
theorem dX9_price_4 : decode cX9_price 4 = .ok (.iload_n 1, 1) := by decide +kernel
theorem dX9_price_5 : decode cX9_price 5 = .ok (.iaload, 1) := by decide +kernel
theorem dX9_price_6 : decode cX9_price 6 = .ok (.istore_n 3, 1) := by decide +kernel
theorem dX9_price_7 : decode cX9_price 7 = .ok (.iconst 0, 1) := by decide +kernel
theorem dX9_price_8 : decode cX9_price 8 = .ok (.istore 4, 2) := by decide +kernel
theorem dX9_price_10 : decode cX9_price 10 = .ok (.iconst 0, 1) := by decide +kernel
theorem dX9_price_11 : decode cX9_price 11 = .ok (.istore 5, 2) := by decide +kernel
theorem dX9_price_13 : decode cX9_price 13 = .ok (.iload 5, 2) := by decide +kernel
theorem dX9_price_15 : decode cX9_price 15 = .ok (.iconst 2, 1) := by decide +kernel
theorem dX9_price_16 : decode cX9_price 16 = .ok (.if_icmp .ge 60, 3) := by decide +kernel
theorem dX9_price_19 : decode cX9_price 19 = .ok (.iload 4, 2) := by decide +kernel
theorem dX9_price_21 : decode cX9_price 21 = .ok (.iload_n 3, 1) := by decide +kernel
theorem dX9_price_22 : decode cX9_price 22 = .ok (.bipush 7, 2) := by decide +kernel
theorem dX9_price_24 : decode cX9_price 24 = .ok (.if_icmp .eq 9, 3) := by decide +kernel
theorem dX9_price_27 : decode cX9_price 27 = .ok (.iload_n 3, 1) := by decide +kernel
theorem dX9_price_28 : decode cX9_price 28 = .ok (.bipush 9, 2) := by decide +kernel
theorem dX9_price_30 : decode cX9_price 30 = .ok (.if_icmp .ne 36, 3) := by decide +kernel
theorem dX9_price_33 : decode cX9_price 33 = .ok (.aload_n 0, 1) := by decide +kernel
theorem dX9_price_34 : decode cX9_price 34 = .ok (.getfield 41, 3) := by decide +kernel
theorem dX9_price_37 : decode cX9_price 37 = .ok (.aload_n 0, 1) := by decide +kernel
theorem dX9_price_38 : decode cX9_price 38 = .ok (.iload_n 1, 1) := by decide +kernel
theorem dX9_price_39 : decode cX9_price 39 = .ok (.iload_n 2, 1) := by decide +kernel
theorem dX9_price_40 : decode cX9_price 40 = .ok (.iload 5, 2) := by decide +kernel
theorem dX9_price_42 : decode cX9_price 42 = .ok (.invokevirtual 199, 3) := by decide +kernel
theorem dX9_price_45 : decode cX9_price 45 = .ok (.iaload, 1) := by decide +kernel
theorem dX9_price_46 : decode cX9_price 46 = .ok (.iconst 3, 1) := by decide +kernel
theorem dX9_price_47 : decode cX9_price 47 = .ok (.if_icmp .ne 19, 3) := by decide +kernel
theorem dX9_price_50 : decode cX9_price 50 = .ok (.aload_n 0, 1) := by decide +kernel
theorem dX9_price_51 : decode cX9_price 51 = .ok (.getfield 44, 3) := by decide +kernel
theorem dX9_price_54 : decode cX9_price 54 = .ok (.aload_n 0, 1) := by decide +kernel
theorem dX9_price_55 : decode cX9_price 55 = .ok (.iload_n 1, 1) := by decide +kernel
theorem dX9_price_56 : decode cX9_price 56 = .ok (.iload_n 2, 1) := by decide +kernel
theorem dX9_price_57 : decode cX9_price 57 = .ok (.iload 5, 2) := by decide +kernel
theorem dX9_price_59 : decode cX9_price 59 = .ok (.invokevirtual 199, 3) := by decide +kernel
theorem dX9_price_62 : decode cX9_price 62 = .ok (.iaload, 1) := by decide +kernel
theorem dX9_price_63 : decode cX9_price 63 = .ok (.goto 4, 3) := by decide +kernel
theorem dX9_price_66 : decode cX9_price 66 = .ok (.iconst 0, 1) := by decide +kernel
theorem dX9_price_67 : decode cX9_price 67 = .ok (.iadd, 1) := by decide +kernel
theorem dX9_price_68 : decode cX9_price 68 = .ok (.istore 4, 2) := by decide +kernel
theorem dX9_price_70 : decode cX9_price 70 = .ok (.iinc 5 1, 3) := by decide +kernel
theorem dX9_price_73 : decode cX9_price 73 = .ok (.goto (-60), 3) := by decide +kernel
theorem dX9_price_76 : decode cX9_price 76 = .ok (.iload_n 3, 1) := by decide +kernel
theorem dX9_price_77 : decode cX9_price 77 = .ok (.iconst 2, 1) := by decide +kernel
theorem dX9_price_78 : decode cX9_price 78 = .ok (.if_icmp .eq 8, 3) := by decide +kernel
theorem dX9_price_81 : decode cX9_price 81 = .ok (.iload_n 3, 1) := by decide +kernel
theorem dX9_price_82 : decode cX9_price 82 = .ok (.iconst 3, 1) := by decide +kernel
theorem dX9_price_83 : decode cX9_price 83 = .ok (.if_icmp .ne 7, 3) := by decide +kernel
theorem dX9_price_86 : decode cX9_price 86 = .ok (.iconst 4, 1) := by decide +kernel
theorem dX9_price_87 : decode cX9_price 87 = .ok (.goto 45, 3) := by decide +kernel
theorem dX9_price_90 : decode cX9_price 90 = .ok (.iload_n 3, 1) := by decide +kernel
theorem dX9_price_91 : decode cX9_price 91 = .ok (.bipush 7, 2) := by decide +kernel
theorem dX9_price_93 : decode cX9_price 93 = .ok (.if_icmp .eq 9, 3) := by decide +kernel
theorem dX9_price_96 : decode cX9_price 96 = .ok (.iload_n 3, 1) := by decide +kernel
theorem dX9_price_97 : decode cX9_price 97 = .ok (.bipush 9, 2) := by decide +kernel
theorem dX9_price_99 : decode cX9_price 99 = .ok (.if_icmp .ne 10, 3) := by decide +kernel
theorem dX9_price_102 : decode cX9_price 102 = .ok (.iconst 1, 1) := by decide +kernel
theorem dX9_price_103 : decode cX9_price 103 = .ok (.iload 4, 2) := by decide +kernel
theorem dX9_price_105 : decode cX9_price 105 = .ok (.iadd, 1) := by decide +kernel
theorem dX9_price_106 : decode cX9_price 106 = .ok (.goto 26, 3) := by decide +kernel
theorem dX9_price_109 : decode cX9_price 109 = .ok (.iload_n 3, 1) := by decide +kernel
theorem dX9_price_110 : decode cX9_price 110 = .ok (.bipush 6, 2) := by decide +kernel
theorem dX9_price_112 : decode cX9_price 112 = .ok (.if_icmp .eq 15, 3) := by decide +kernel
theorem dX9_price_115 : decode cX9_price 115 = .ok (.iload_n 3, 1) := by decide +kernel
theorem dX9_price_116 : decode cX9_price 116 = .ok (.bipush 8, 2) := by decide +kernel
theorem dX9_price_118 : decode cX9_price 118 = .ok (.if_icmp .eq 9, 3) := by decide +kernel
theorem dX9_price_121 : decode cX9_price 121 = .ok (.iload_n 3, 1) := by decide +kernel
theorem dX9_price_122 : decode cX9_price 122 = .ok (.bipush 10, 2) := by decide +kernel
theorem dX9_price_124 : decode cX9_price 124 = .ok (.if_icmp .ne 7, 3) := by decide +kernel
theorem dX9_price_127 : decode cX9_price 127 = .ok (.iconst 1, 1) := by decide +kernel
theorem dX9_price_128 : decode cX9_price 128 = .ok (.goto 4, 3) := by decide +kernel
theorem dX9_price_131 : decode cX9_price 131 = .ok (.iconst 2, 1) := by decide +kernel
theorem dX9_price_132 : decode cX9_price 132 = .ok (.ireturn, 1) := by decide +kernel
theorem dX9_isInt_0 : decode cX9_isInt 0 = .ok (.lload_n 0, 1) := by decide +kernel
theorem dX9_isInt_1 : decode cX9_isInt 1 = .ok (.ldc2_w 203, 3) := by decide +kernel
theorem dX9_isInt_4 : decode cX9_isInt 4 = .ok (.lcmp, 1) := by decide +kernel
theorem dX9_isInt_5 : decode cX9_isInt 5 = .ok (.ifCond .lt 15, 3) := by decide +kernel
theorem dX9_isInt_8 : decode cX9_isInt 8 = .ok (.lload_n 0, 1) := by decide +kernel
theorem dX9_isInt_9 : decode cX9_isInt 9 = .ok (.ldc2_w 114, 3) := by decide +kernel
theorem dX9_isInt_12 : decode cX9_isInt 12 = .ok (.lcmp, 1) := by decide +kernel
theorem dX9_isInt_13 : decode cX9_isInt 13 = .ok (.ifCond .gt 7, 3) := by decide +kernel
theorem dX9_isInt_16 : decode cX9_isInt 16 = .ok (.iconst 1, 1) := by decide +kernel
theorem dX9_isInt_17 : decode cX9_isInt 17 = .ok (.goto 4, 3) := by decide +kernel
theorem dX9_isInt_20 : decode cX9_isInt 20 = .ok (.iconst 0, 1) := by decide +kernel
theorem dX9_isInt_21 : decode cX9_isInt 21 = .ok (.ireturn, 1) := by decide +kernel
theorem dX9_gives_0 : decode cX9_gives 0 = .ok (.aload_n 0, 1) := by decide +kernel
theorem dX9_gives_1 : decode cX9_gives 1 = .ok (.iload_n 1, 1) := by decide +kernel
theorem dX9_gives_2 : decode cX9_gives 2 = .ok (.iload_n 2, 1) := by decide +kernel
theorem dX9_gives_3 : decode cX9_gives 3 = .ok (.invokevirtual 205, 3) := by decide +kernel
theorem dX9_gives_6 : decode cX9_gives 6 = .ok (.ifCond .ne 5, 3) := by decide +kernel
theorem dX9_gives_9 : decode cX9_gives 9 = .ok (.iconst 0, 1) := by decide +kernel
theorem dX9_gives_10 : decode cX9_gives 10 = .ok (.ireturn, 1) := by decide +kernel
theorem dX9_gives_11 : decode cX9_gives 11 = .ok (.aload_n 0, 1) := by decide +kernel
theorem dX9_gives_12 : decode cX9_gives 12 = .ok (.getfield 50, 3) := by decide +kernel
theorem dX9_gives_15 : decode cX9_gives 15 = .ok (.iload_n 1, 1) := by decide +kernel
theorem dX9_gives_16 : decode cX9_gives 16 = .ok (.iaload, 1) := by decide +kernel
theorem dX9_gives_17 : decode cX9_gives 17 = .ok (.istore_n 3, 1) := by decide +kernel
theorem dX9_gives_18 : decode cX9_gives 18 = .ok (.aload_n 0, 1) := by decide +kernel
theorem dX9_gives_19 : decode cX9_gives 19 = .ok (.iload_n 1, 1) := by decide +kernel
theorem dX9_gives_20 : decode cX9_gives 20 = .ok (.iload_n 2, 1) := by decide +kernel
theorem dX9_gives_21 : decode cX9_gives 21 = .ok (.iconst 0, 1) := by decide +kernel
theorem dX9_gives_22 : decode cX9_gives 22 = .ok (.invokevirtual 199, 3) := by decide +kernel
theorem dX9_gives_25 : decode cX9_gives 25 = .ok (.istore 4, 2) := by decide +kernel
theorem dX9_gives_27 : decode cX9_gives 27 = .ok (.aload_n 0, 1) := by decide +kernel
theorem dX9_gives_28 : decode cX9_gives 28 = .ok (.iload_n 1, 1) := by decide +kernel
theorem dX9_gives_29 : decode cX9_gives 29 = .ok (.iload_n 2, 1) := by decide +kernel
theorem dX9_gives_30 : decode cX9_gives 30 = .ok (.iconst 1, 1) := by decide +kernel
theorem dX9_gives_31 : decode cX9_gives 31 = .ok (.invokevirtual 199, 3) := by decide +kernel
theorem dX9_gives_34 : decode cX9_gives 34 = .ok (.istore 5, 2) := by decide +kernel
theorem dX9_gives_36 : decode cX9_gives 36 = .ok (.aload_n 0, 1) := by decide +kernel
theorem dX9_gives_37 : decode cX9_gives 37 = .ok (.getfield 44, 3) := by decide +kernel
theorem dX9_gives_40 : decode cX9_gives 40 = .ok (.iload 4, 2) := by decide +kernel
theorem dX9_gives_42 : decode cX9_gives 42 = .ok (.iaload, 1) := by decide +kernel
theorem dX9_gives_43 : decode cX9_gives 43 = .ok (.i2l, 1) := by decide +kernel
theorem dX9_gives_44 : decode cX9_gives 44 = .ok (.lstore 6, 2) := by decide +kernel
theorem dX9_gives_46 : decode cX9_gives 46 = .ok (.aload_n 0, 1) := by decide +kernel
theorem dX9_gives_47 : decode cX9_gives 47 = .ok (.getfield 44, 3) := by decide +kernel
theorem dX9_gives_50 : decode cX9_gives 50 = .ok (.iload 5, 2) := by decide +kernel
theorem dX9_gives_52 : decode cX9_gives 52 = .ok (.iaload, 1) := by decide +kernel
theorem dX9_gives_53 : decode cX9_gives 53 = .ok (.i2l, 1) := by decide +kernel
theorem dX9_gives_54 : decode cX9_gives 54 = .ok (.lstore 8, 2) := by decide +kernel
theorem dX9_gives_56 : decode cX9_gives 56 = .ok (.iload_n 3, 1) := by decide +kernel
theorem dX9_gives_57 : decode cX9_gives 57 = .ok (.iconst 3, 1) := by decide +kernel
theorem dX9_gives_58 : decode cX9_gives 58 = .ok (.if_icmp .ne 27, 3) := by decide +kernel
theorem dX9_gives_61 : decode cX9_gives 61 = .ok (.lload 8, 2) := by decide +kernel
theorem dX9_gives_63 : decode cX9_gives 63 = .ok (.lconst 0, 1) := by decide +kernel
theorem dX9_gives_64 : decode cX9_gives 64 = .ok (.lcmp, 1) := by decide +kernel
theorem dX9_gives_65 : decode cX9_gives 65 = .ok (.ifCond .eq 18, 3) := by decide +kernel
theorem dX9_gives_68 : decode cX9_gives 68 = .ok (.lload 6, 2) := by decide +kernel
theorem dX9_gives_70 : decode cX9_gives 70 = .ok (.lload 8, 2) := by decide +kernel
theorem dX9_gives_72 : decode cX9_gives 72 = .ok (.ldiv, 1) := by decide +kernel
theorem dX9_gives_73 : decode cX9_gives 73 = .ok (.invokestatic 209, 3) := by decide +kernel
theorem dX9_gives_76 : decode cX9_gives 76 = .ok (.ifCond .eq 7, 3) := by decide +kernel
theorem dX9_gives_79 : decode cX9_gives 79 = .ok (.iconst 1, 1) := by decide +kernel
theorem dX9_gives_80 : decode cX9_gives 80 = .ok (.goto 4, 3) := by decide +kernel
theorem dX9_gives_83 : decode cX9_gives 83 = .ok (.iconst 0, 1) := by decide +kernel
theorem dX9_gives_84 : decode cX9_gives 84 = .ok (.ireturn, 1) := by decide +kernel
theorem dX9_gives_85 : decode cX9_gives 85 = .ok (.iload_n 3, 1) := by decide +kernel
theorem dX9_gives_86 : decode cX9_gives 86 = .ok (.bipush 9, 2) := by decide +kernel
theorem dX9_gives_88 : decode cX9_gives 88 = .ok (.if_icmp .ne 24, 3) := by decide +kernel
theorem dX9_gives_91 : decode cX9_gives 91 = .ok (.lload 8, 2) := by decide +kernel
theorem dX9_gives_93 : decode cX9_gives 93 = .ok (.lconst 0, 1) := by decide +kernel
theorem dX9_gives_94 : decode cX9_gives 94 = .ok (.lcmp, 1) := by decide +kernel
theorem dX9_gives_95 : decode cX9_gives 95 = .ok (.ifCond .lt 15, 3) := by decide +kernel
theorem dX9_gives_98 : decode cX9_gives 98 = .ok (.lload 8, 2) := by decide +kernel
theorem dX9_gives_100 : decode cX9_gives 100 = .ok (.lload 6, 2) := by decide +kernel
theorem dX9_gives_102 : decode cX9_gives 102 = .ok (.lcmp, 1) := by decide +kernel
theorem dX9_gives_103 : decode cX9_gives 103 = .ok (.ifCond .ge 7, 3) := by decide +kernel
theorem dX9_gives_106 : decode cX9_gives 106 = .ok (.iconst 1, 1) := by decide +kernel
theorem dX9_gives_107 : decode cX9_gives 107 = .ok (.goto 4, 3) := by decide +kernel
theorem dX9_gives_110 : decode cX9_gives 110 = .ok (.iconst 0, 1) := by decide +kernel
theorem dX9_gives_111 : decode cX9_gives 111 = .ok (.ireturn, 1) := by decide +kernel
theorem dX9_gives_112 : decode cX9_gives 112 = .ok (.iload_n 3, 1) := by decide +kernel
theorem dX9_gives_113 : decode cX9_gives 113 = .ok (.iconst 3, 1) := by decide +kernel
theorem dX9_gives_114 : decode cX9_gives 114 = .ok (.if_icmp .ge 39, 3) := by decide +kernel
theorem dX9_gives_117 : decode cX9_gives 117 = .ok (.iload_n 3, 1) := by decide +kernel
theorem dX9_gives_118 : decode cX9_gives 118 = .ok (.ifCond .ne 11, 3) := by decide +kernel
theorem dX9_gives_121 : decode cX9_gives 121 = .ok (.lload 6, 2) := by decide +kernel
theorem dX9_gives_123 : decode cX9_gives 123 = .ok (.lload 8, 2) := by decide +kernel
theorem dX9_gives_125 : decode cX9_gives 125 = .ok (.ladd, 1) := by decide +kernel
theorem dX9_gives_126 : decode cX9_gives 126 = .ok (.goto 21, 3) := by decide +kernel
theorem dX9_gives_129 : decode cX9_gives 129 = .ok (.iload_n 3, 1) := by decide +kernel
theorem dX9_gives_130 : decode cX9_gives 130 = .ok (.iconst 1, 1) := by decide +kernel
theorem dX9_gives_131 : decode cX9_gives 131 = .ok (.if_icmp .ne 11, 3) := by decide +kernel
theorem dX9_gives_134 : decode cX9_gives 134 = .ok (.lload 6, 2) := by decide +kernel
theorem dX9_gives_136 : decode cX9_gives 136 = .ok (.lload 8, 2) := by decide +kernel
theorem dX9_gives_138 : decode cX9_gives 138 = .ok (.lsub, 1) := by decide +kernel
theorem dX9_gives_139 : decode cX9_gives 139 = .ok (.goto 8, 3) := by decide +kernel
theorem dX9_gives_142 : decode cX9_gives 142 = .ok (.lload 6, 2) := by decide +kernel
theorem dX9_gives_144 : decode cX9_gives 144 = .ok (.lload 8, 2) := by decide +kernel
theorem dX9_gives_146 : decode cX9_gives 146 = .ok (.lmul, 1) := by decide +kernel
theorem dX9_gives_147 : decode cX9_gives 147 = .ok (.invokestatic 209, 3) := by decide +kernel
theorem dX9_gives_150 : decode cX9_gives 150 = .ok (.goto 26, 3) := by decide +kernel
theorem dX9_gives_153 : decode cX9_gives 153 = .ok (.iload_n 3, 1) := by decide +kernel
theorem dX9_gives_154 : decode cX9_gives 154 = .ok (.bipush 7, 2) := by decide +kernel
theorem dX9_gives_156 : decode cX9_gives 156 = .ok (.if_icmp .ne 15, 3) := by decide +kernel
theorem dX9_gives_159 : decode cX9_gives 159 = .ok (.lload 6, 2) := by decide +kernel
theorem dX9_gives_161 : decode cX9_gives 161 = .ok (.lload 8, 2) := by decide +kernel
theorem dX9_gives_163 : decode cX9_gives 163 = .ok (.ladd, 1) := by decide +kernel
theorem dX9_gives_164 : decode cX9_gives 164 = .ok (.ldc2_w 213, 3) := by decide +kernel
theorem dX9_gives_167 : decode cX9_gives 167 = .ok (.lcmp, 1) := by decide +kernel
theorem dX9_gives_168 : decode cX9_gives 168 = .ok (.ifCond .gt 7, 3) := by decide +kernel
theorem dX9_gives_171 : decode cX9_gives 171 = .ok (.iconst 1, 1) := by decide +kernel
theorem dX9_gives_172 : decode cX9_gives 172 = .ok (.goto 4, 3) := by decide +kernel
theorem dX9_gives_175 : decode cX9_gives 175 = .ok (.iconst 0, 1) := by decide +kernel
theorem dX9_gives_176 : decode cX9_gives 176 = .ok (.ireturn, 1) := by decide +kernel
theorem dX9_result_0 : decode cX9_result 0 = .ok (.aload_n 0, 1) := by decide +kernel
theorem dX9_result_1 : decode cX9_result 1 = .ok (.getfield 50, 3) := by decide +kernel
theorem dX9_result_4 : decode cX9_result 4 = .ok (.iload_n 1, 1) := by decide +kernel
theorem dX9_result_5 : decode cX9_result 5 = .ok (.iaload, 1) := by decide +kernel
theorem dX9_result_6 : decode cX9_result 6 = .ok (.istore_n 3, 1) := by decide +kernel
theorem dX9_result_7 : decode cX9_result 7 = .ok (.aload_n 0, 1) := by decide +kernel
theorem dX9_result_8 : decode cX9_result 8 = .ok (.iload_n 1, 1) := by decide +kernel
theorem dX9_result_9 : decode cX9_result 9 = .ok (.iload_n 2, 1) := by decide +kernel
theorem dX9_result_10 : decode cX9_result 10 = .ok (.iconst 0, 1) := by decide +kernel
theorem dX9_result_11 : decode cX9_result 11 = .ok (.invokevirtual 199, 3) := by decide +kernel
theorem dX9_result_14 : decode cX9_result 14 = .ok (.istore 4, 2) := by decide +kernel
theorem dX9_result_16 : decode cX9_result 16 = .ok (.aload_n 0, 1) := by decide +kernel
theorem dX9_result_17 : decode cX9_result 17 = .ok (.iload_n 1, 1) := by decide +kernel
theorem dX9_result_18 : decode cX9_result 18 = .ok (.iload_n 2, 1) := by decide +kernel
theorem dX9_result_19 : decode cX9_result 19 = .ok (.iconst 1, 1) := by decide +kernel
theorem dX9_result_20 : decode cX9_result 20 = .ok (.invokevirtual 199, 3) := by decide +kernel
theorem dX9_result_23 : decode cX9_result 23 = .ok (.istore 5, 2) := by decide +kernel
theorem dX9_result_25 : decode cX9_result 25 = .ok (.aload_n 0, 1) := by decide +kernel
theorem dX9_result_26 : decode cX9_result 26 = .ok (.getfield 44, 3) := by decide +kernel
theorem dX9_result_29 : decode cX9_result 29 = .ok (.iload 4, 2) := by decide +kernel
theorem dX9_result_31 : decode cX9_result 31 = .ok (.iaload, 1) := by decide +kernel
theorem dX9_result_32 : decode cX9_result 32 = .ok (.i2l, 1) := by decide +kernel
theorem dX9_result_33 : decode cX9_result 33 = .ok (.lstore 6, 2) := by decide +kernel
theorem dX9_result_35 : decode cX9_result 35 = .ok (.aload_n 0, 1) := by decide +kernel
theorem dX9_result_36 : decode cX9_result 36 = .ok (.getfield 44, 3) := by decide +kernel
theorem dX9_result_39 : decode cX9_result 39 = .ok (.iload 5, 2) := by decide +kernel
theorem dX9_result_41 : decode cX9_result 41 = .ok (.iaload, 1) := by decide +kernel
theorem dX9_result_42 : decode cX9_result 42 = .ok (.i2l, 1) := by decide +kernel
theorem dX9_result_43 : decode cX9_result 43 = .ok (.lstore 8, 2) := by decide +kernel
theorem dX9_result_45 : decode cX9_result 45 = .ok (.iload_n 3, 1) := by decide +kernel
theorem dX9_result_46 : decode cX9_result 46 = .ok (.bipush 6, 2) := by decide +kernel
theorem dX9_result_48 : decode cX9_result 48 = .ok (.if_icmp .ne 23, 3) := by decide +kernel
theorem dX9_result_51 : decode cX9_result 51 = .ok (.lload 6, 2) := by decide +kernel
theorem dX9_result_53 : decode cX9_result 53 = .ok (.lconst 1, 1) := by decide +kernel
theorem dX9_result_54 : decode cX9_result 54 = .ok (.lcmp, 1) := by decide +kernel
theorem dX9_result_55 : decode cX9_result 55 = .ok (.ifCond .ne 8, 3) := by decide +kernel
theorem dX9_result_58 : decode cX9_result 58 = .ok (.iload 5, 2) := by decide +kernel
theorem dX9_result_60 : decode cX9_result 60 = .ok (.goto 10, 3) := by decide +kernel
theorem dX9_result_63 : decode cX9_result 63 = .ok (.aload_n 0, 1) := by decide +kernel
theorem dX9_result_64 : decode cX9_result 64 = .ok (.iload_n 1, 1) := by decide +kernel
theorem dX9_result_65 : decode cX9_result 65 = .ok (.iload_n 2, 1) := by decide +kernel
theorem dX9_result_66 : decode cX9_result 66 = .ok (.iconst 2, 1) := by decide +kernel
theorem dX9_result_67 : decode cX9_result 67 = .ok (.invokevirtual 199, 3) := by decide +kernel
theorem dX9_result_70 : decode cX9_result 70 = .ok (.ireturn, 1) := by decide +kernel
theorem dX9_result_71 : decode cX9_result 71 = .ok (.iload_n 3, 1) := by decide +kernel
theorem dX9_result_72 : decode cX9_result 72 = .ok (.bipush 10, 2) := by decide +kernel
theorem dX9_result_74 : decode cX9_result 74 = .ok (.if_icmp .ne 6, 3) := by decide +kernel
theorem dX9_result_77 : decode cX9_result 77 = .ok (.iload 5, 2) := by decide +kernel
theorem dX9_result_79 : decode cX9_result 79 = .ok (.ireturn, 1) := by decide +kernel
theorem dX9_result_80 : decode cX9_result 80 = .ok (.iload_n 3, 1) := by decide +kernel
theorem dX9_result_81 : decode cX9_result 81 = .ok (.bipush 7, 2) := by decide +kernel
theorem dX9_result_83 : decode cX9_result 83 = .ok (.if_icmp .ne 49, 3) := by decide +kernel
theorem dX9_result_86 : decode cX9_result 86 = .ok (.aload_n 0, 1) := by decide +kernel
theorem dX9_result_87 : decode cX9_result 87 = .ok (.lload 6, 2) := by decide +kernel
theorem dX9_result_89 : decode cX9_result 89 = .ok (.lload 8, 2) := by decide +kernel
theorem dX9_result_91 : decode cX9_result 91 = .ok (.ladd, 1) := by decide +kernel
theorem dX9_result_92 : decode cX9_result 92 = .ok (.l2i, 1) := by decide +kernel
theorem dX9_result_93 : decode cX9_result 93 = .ok (.aload_n 0, 1) := by decide +kernel
theorem dX9_result_94 : decode cX9_result 94 = .ok (.getfield 47, 3) := by decide +kernel
theorem dX9_result_97 : decode cX9_result 97 = .ok (.iload 4, 2) := by decide +kernel
theorem dX9_result_99 : decode cX9_result 99 = .ok (.laload, 1) := by decide +kernel
theorem dX9_result_100 : decode cX9_result 100 = .ok (.lload 6, 2) := by decide +kernel
theorem dX9_result_102 : decode cX9_result 102 = .ok (.ldc2_w 213, 3) := by decide +kernel
theorem dX9_result_105 : decode cX9_result 105 = .ok (.lcmp, 1) := by decide +kernel
theorem dX9_result_106 : decode cX9_result 106 = .ok (.ifCond .ge 20, 3) := by decide +kernel
theorem dX9_result_109 : decode cX9_result 109 = .ok (.aload_n 0, 1) := by decide +kernel
theorem dX9_result_110 : decode cX9_result 110 = .ok (.getfield 47, 3) := by decide +kernel
theorem dX9_result_113 : decode cX9_result 113 = .ok (.iload 5, 2) := by decide +kernel
theorem dX9_result_115 : decode cX9_result 115 = .ok (.laload, 1) := by decide +kernel
theorem dX9_result_116 : decode cX9_result 116 = .ok (.bipush 8, 2) := by decide +kernel
theorem dX9_result_118 : decode cX9_result 118 = .ok (.lload 6, 2) := by decide +kernel
theorem dX9_result_120 : decode cX9_result 120 = .ok (.l2i, 1) := by decide +kernel
theorem dX9_result_121 : decode cX9_result 121 = .ok (.imul, 1) := by decide +kernel
theorem dX9_result_122 : decode cX9_result 122 = .ok (.lshl, 1) := by decide +kernel
theorem dX9_result_123 : decode cX9_result 123 = .ok (.goto 4, 3) := by decide +kernel
theorem dX9_result_126 : decode cX9_result 126 = .ok (.lconst 0, 1) := by decide +kernel
theorem dX9_result_127 : decode cX9_result 127 = .ok (.lor, 1) := by decide +kernel
theorem dX9_result_128 : decode cX9_result 128 = .ok (.invokevirtual 215, 3) := by decide +kernel
theorem dX9_result_131 : decode cX9_result 131 = .ok (.ireturn, 1) := by decide +kernel
theorem dX9_result_132 : decode cX9_result 132 = .ok (.iload_n 3, 1) := by decide +kernel
theorem dX9_result_133 : decode cX9_result 133 = .ok (.iconst 4, 1) := by decide +kernel
theorem dX9_result_134 : decode cX9_result 134 = .ok (.if_icmp .eq 14, 3) := by decide +kernel
theorem dX9_result_137 : decode cX9_result 137 = .ok (.iload_n 3, 1) := by decide +kernel
theorem dX9_result_138 : decode cX9_result 138 = .ok (.iconst 5, 1) := by decide +kernel
theorem dX9_result_139 : decode cX9_result 139 = .ok (.if_icmp .eq 9, 3) := by decide +kernel
theorem dX9_result_142 : decode cX9_result 142 = .ok (.iload_n 3, 1) := by decide +kernel
theorem dX9_result_143 : decode cX9_result 143 = .ok (.bipush 11, 2) := by decide +kernel
theorem dX9_result_145 : decode cX9_result 145 = .ok (.if_icmp .ne 96, 3) := by decide +kernel
theorem dX9_result_148 : decode cX9_result 148 = .ok (.iload_n 3, 1) := by decide +kernel
theorem dX9_result_149 : decode cX9_result 149 = .ok (.iconst 4, 1) := by decide +kernel
theorem dX9_result_150 : decode cX9_result 150 = .ok (.if_icmp .ne 19, 3) := by decide +kernel
theorem dX9_result_153 : decode cX9_result 153 = .ok (.lload 6, 2) := by decide +kernel
theorem dX9_result_155 : decode cX9_result 155 = .ok (.lload 8, 2) := by decide +kernel
theorem dX9_result_157 : decode cX9_result 157 = .ok (.lcmp, 1) := by decide +kernel
theorem dX9_result_158 : decode cX9_result 158 = .ok (.ifCond .ne 7, 3) := by decide +kernel
theorem dX9_result_161 : decode cX9_result 161 = .ok (.iconst 1, 1) := by decide +kernel
theorem dX9_result_162 : decode cX9_result 162 = .ok (.goto 59, 3) := by decide +kernel
theorem dX9_result_165 : decode cX9_result 165 = .ok (.iconst 0, 1) := by decide +kernel
theorem dX9_result_166 : decode cX9_result 166 = .ok (.goto 55, 3) := by decide +kernel
theorem dX9_result_169 : decode cX9_result 169 = .ok (.iload_n 3, 1) := by decide +kernel
theorem dX9_result_170 : decode cX9_result 170 = .ok (.iconst 5, 1) := by decide +kernel
theorem dX9_result_171 : decode cX9_result 171 = .ok (.if_icmp .ne 19, 3) := by decide +kernel
theorem dX9_result_174 : decode cX9_result 174 = .ok (.lload 6, 2) := by decide +kernel
theorem dX9_result_176 : decode cX9_result 176 = .ok (.lload 8, 2) := by decide +kernel
theorem dX9_result_178 : decode cX9_result 178 = .ok (.lcmp, 1) := by decide +kernel
theorem dX9_result_179 : decode cX9_result 179 = .ok (.ifCond .ge 7, 3) := by decide +kernel
theorem dX9_result_182 : decode cX9_result 182 = .ok (.iconst 1, 1) := by decide +kernel
theorem dX9_result_183 : decode cX9_result 183 = .ok (.goto 38, 3) := by decide +kernel
theorem dX9_result_186 : decode cX9_result 186 = .ok (.iconst 0, 1) := by decide +kernel
theorem dX9_result_187 : decode cX9_result 187 = .ok (.goto 34, 3) := by decide +kernel
theorem dX9_result_190 : decode cX9_result 190 = .ok (.lload 6, 2) := by decide +kernel
theorem dX9_result_192 : decode cX9_result 192 = .ok (.lload 8, 2) := by decide +kernel
theorem dX9_result_194 : decode cX9_result 194 = .ok (.lcmp, 1) := by decide +kernel
theorem dX9_result_195 : decode cX9_result 195 = .ok (.ifCond .ne 25, 3) := by decide +kernel
theorem dX9_result_198 : decode cX9_result 198 = .ok (.aload_n 0, 1) := by decide +kernel
theorem dX9_result_199 : decode cX9_result 199 = .ok (.getfield 47, 3) := by decide +kernel
theorem dX9_result_202 : decode cX9_result 202 = .ok (.iload 4, 2) := by decide +kernel
theorem dX9_result_204 : decode cX9_result 204 = .ok (.laload, 1) := by decide +kernel
theorem dX9_result_205 : decode cX9_result 205 = .ok (.aload_n 0, 1) := by decide +kernel
theorem dX9_result_206 : decode cX9_result 206 = .ok (.getfield 47, 3) := by decide +kernel
theorem dX9_result_209 : decode cX9_result 209 = .ok (.iload 5, 2) := by decide +kernel
theorem dX9_result_211 : decode cX9_result 211 = .ok (.laload, 1) := by decide +kernel
theorem dX9_result_212 : decode cX9_result 212 = .ok (.lcmp, 1) := by decide +kernel
theorem dX9_result_213 : decode cX9_result 213 = .ok (.ifCond .ne 7, 3) := by decide +kernel
theorem dX9_result_216 : decode cX9_result 216 = .ok (.iconst 1, 1) := by decide +kernel
theorem dX9_result_217 : decode cX9_result 217 = .ok (.goto 4, 3) := by decide +kernel
theorem dX9_result_220 : decode cX9_result 220 = .ok (.iconst 0, 1) := by decide +kernel
theorem dX9_result_221 : decode cX9_result 221 = .ok (.istore 10, 2) := by decide +kernel
theorem dX9_result_223 : decode cX9_result 223 = .ok (.aload_n 0, 1) := by decide +kernel
theorem dX9_result_224 : decode cX9_result 224 = .ok (.iconst 1, 1) := by decide +kernel
theorem dX9_result_225 : decode cX9_result 225 = .ok (.iload 10, 2) := by decide +kernel
theorem dX9_result_227 : decode cX9_result 227 = .ok (.ifCond .eq 7, 3) := by decide +kernel
theorem dX9_result_230 : decode cX9_result 230 = .ok (.iconst 1, 1) := by decide +kernel
theorem dX9_result_231 : decode cX9_result 231 = .ok (.goto 4, 3) := by decide +kernel
theorem dX9_result_234 : decode cX9_result 234 = .ok (.iconst 0, 1) := by decide +kernel
theorem dX9_result_235 : decode cX9_result 235 = .ok (.iconst 0, 1) := by decide +kernel
theorem dX9_result_236 : decode cX9_result 236 = .ok (.iconst 0, 1) := by decide +kernel
theorem dX9_result_237 : decode cX9_result 237 = .ok (.invokevirtual 181, 3) := by decide +kernel
theorem dX9_result_240 : decode cX9_result 240 = .ok (.ireturn, 1) := by decide +kernel
theorem dX9_result_241 : decode cX9_result 241 = .ok (.iload_n 3, 1) := by decide +kernel
theorem dX9_result_242 : decode cX9_result 242 = .ok (.ifCond .ne 11, 3) := by decide +kernel
theorem dX9_result_245 : decode cX9_result 245 = .ok (.lload 6, 2) := by decide +kernel
theorem dX9_result_247 : decode cX9_result 247 = .ok (.lload 8, 2) := by decide +kernel
theorem dX9_result_249 : decode cX9_result 249 = .ok (.ladd, 1) := by decide +kernel
theorem dX9_result_250 : decode cX9_result 250 = .ok (.goto 71, 3) := by decide +kernel
theorem dX9_result_253 : decode cX9_result 253 = .ok (.iload_n 3, 1) := by decide +kernel
theorem dX9_result_254 : decode cX9_result 254 = .ok (.iconst 1, 1) := by decide +kernel
theorem dX9_result_255 : decode cX9_result 255 = .ok (.if_icmp .ne 11, 3) := by decide +kernel
theorem dX9_result_258 : decode cX9_result 258 = .ok (.lload 6, 2) := by decide +kernel
theorem dX9_result_260 : decode cX9_result 260 = .ok (.lload 8, 2) := by decide +kernel
theorem dX9_result_262 : decode cX9_result 262 = .ok (.lsub, 1) := by decide +kernel
theorem dX9_result_263 : decode cX9_result 263 = .ok (.goto 58, 3) := by decide +kernel
theorem dX9_result_266 : decode cX9_result 266 = .ok (.iload_n 3, 1) := by decide +kernel
theorem dX9_result_267 : decode cX9_result 267 = .ok (.iconst 2, 1) := by decide +kernel
theorem dX9_result_268 : decode cX9_result 268 = .ok (.if_icmp .ne 11, 3) := by decide +kernel
theorem dX9_result_271 : decode cX9_result 271 = .ok (.lload 6, 2) := by decide +kernel
theorem dX9_result_273 : decode cX9_result 273 = .ok (.lload 8, 2) := by decide +kernel
theorem dX9_result_275 : decode cX9_result 275 = .ok (.lmul, 1) := by decide +kernel
theorem dX9_result_276 : decode cX9_result 276 = .ok (.goto 45, 3) := by decide +kernel
theorem dX9_result_279 : decode cX9_result 279 = .ok (.iload_n 3, 1) := by decide +kernel
theorem dX9_result_280 : decode cX9_result 280 = .ok (.iconst 3, 1) := by decide +kernel
theorem dX9_result_281 : decode cX9_result 281 = .ok (.if_icmp .ne 11, 3) := by decide +kernel
theorem dX9_result_284 : decode cX9_result 284 = .ok (.lload 6, 2) := by decide +kernel
theorem dX9_result_286 : decode cX9_result 286 = .ok (.lload 8, 2) := by decide +kernel
theorem dX9_result_288 : decode cX9_result 288 = .ok (.ldiv, 1) := by decide +kernel
theorem dX9_result_289 : decode cX9_result 289 = .ok (.goto 32, 3) := by decide +kernel
theorem dX9_result_292 : decode cX9_result 292 = .ok (.iload_n 3, 1) := by decide +kernel
theorem dX9_result_293 : decode cX9_result 293 = .ok (.bipush 8, 2) := by decide +kernel
theorem dX9_result_295 : decode cX9_result 295 = .ok (.if_icmp .ne 8, 3) := by decide +kernel
theorem dX9_result_298 : decode cX9_result 298 = .ok (.lload 6, 2) := by decide +kernel
theorem dX9_result_300 : decode cX9_result 300 = .ok (.goto 21, 3) := by decide +kernel
theorem dX9_result_303 : decode cX9_result 303 = .ok (.aload_n 0, 1) := by decide +kernel
theorem dX9_result_304 : decode cX9_result 304 = .ok (.getfield 47, 3) := by decide +kernel
theorem dX9_result_307 : decode cX9_result 307 = .ok (.iload 4, 2) := by decide +kernel
theorem dX9_result_309 : decode cX9_result 309 = .ok (.laload, 1) := by decide +kernel
theorem dX9_result_310 : decode cX9_result 310 = .ok (.bipush 8, 2) := by decide +kernel
theorem dX9_result_312 : decode cX9_result 312 = .ok (.lload 8, 2) := by decide +kernel
theorem dX9_result_314 : decode cX9_result 314 = .ok (.l2i, 1) := by decide +kernel
theorem dX9_result_315 : decode cX9_result 315 = .ok (.imul, 1) := by decide +kernel
theorem dX9_result_316 : decode cX9_result 316 = .ok (.lshr, 1) := by decide +kernel
theorem dX9_result_317 : decode cX9_result 317 = .ok (.ldc2_w 219, 3) := by decide +kernel
theorem dX9_result_320 : decode cX9_result 320 = .ok (.land, 1) := by decide +kernel
theorem dX9_result_321 : decode cX9_result 321 = .ok (.lstore 10, 2) := by decide +kernel
theorem dX9_result_323 : decode cX9_result 323 = .ok (.aload_n 0, 1) := by decide +kernel
theorem dX9_result_324 : decode cX9_result 324 = .ok (.iconst 0, 1) := by decide +kernel
theorem dX9_result_325 : decode cX9_result 325 = .ok (.lload 10, 2) := by decide +kernel
theorem dX9_result_327 : decode cX9_result 327 = .ok (.l2i, 1) := by decide +kernel
theorem dX9_result_328 : decode cX9_result 328 = .ok (.iconst 0, 1) := by decide +kernel
theorem dX9_result_329 : decode cX9_result 329 = .ok (.iconst 0, 1) := by decide +kernel
theorem dX9_result_330 : decode cX9_result 330 = .ok (.invokevirtual 181, 3) := by decide +kernel
theorem dX9_result_333 : decode cX9_result 333 = .ok (.ireturn, 1) := by decide +kernel
theorem dX9_end_0 : decode cX9_end 0 = .ok (.aload_n 0, 1) := by decide +kernel
theorem dX9_end_1 : decode cX9_end 1 = .ok (.bipush 10, 2) := by decide +kernel
theorem dX9_end_3 : decode cX9_end 3 = .ok (.iload_n 1, 1) := by decide +kernel
theorem dX9_end_4 : decode cX9_end 4 = .ok (.iadd, 1) := by decide +kernel
theorem dX9_end_5 : decode cX9_end 5 = .ok (.putfield 144, 3) := by decide +kernel
theorem dX9_end_8 : decode cX9_end 8 = .ok (.return_, 1) := by decide +kernel
theorem dX9_pile_0 : decode cX9_pile 0 = .ok (.aload_n 0, 1) := by decide +kernel
theorem dX9_pile_1 : decode cX9_pile 1 = .ok (.getfield 68, 3) := by decide +kernel
theorem dX9_pile_4 : decode cX9_pile 4 = .ok (.aload_n 0, 1) := by decide +kernel
theorem dX9_pile_5 : decode cX9_pile 5 = .ok (.getfield 156, 3) := by decide +kernel
theorem dX9_pile_8 : decode cX9_pile 8 = .ok (.iload_n 1, 1) := by decide +kernel
theorem dX9_pile_9 : decode cX9_pile 9 = .ok (.iastore, 1) := by decide +kernel
theorem dX9_pile_10 : decode cX9_pile 10 = .ok (.aload_n 0, 1) := by decide +kernel
theorem dX9_pile_11 : decode cX9_pile 11 = .ok (.getfield 71, 3) := by decide +kernel
theorem dX9_pile_14 : decode cX9_pile 14 = .ok (.aload_n 0, 1) := by decide +kernel
theorem dX9_pile_15 : decode cX9_pile 15 = .ok (.getfield 156, 3) := by decide +kernel
theorem dX9_pile_18 : decode cX9_pile 18 = .ok (.iload_n 2, 1) := by decide +kernel
theorem dX9_pile_19 : decode cX9_pile 19 = .ok (.iastore, 1) := by decide +kernel
theorem dX9_pile_20 : decode cX9_pile 20 = .ok (.aload_n 0, 1) := by decide +kernel
theorem dX9_pile_21 : decode cX9_pile 21 = .ok (.getfield 74, 3) := by decide +kernel
theorem dX9_pile_24 : decode cX9_pile 24 = .ok (.aload_n 0, 1) := by decide +kernel
theorem dX9_pile_25 : decode cX9_pile 25 = .ok (.getfield 156, 3) := by decide +kernel
theorem dX9_pile_28 : decode cX9_pile 28 = .ok (.iload_n 3, 1) := by decide +kernel
theorem dX9_pile_29 : decode cX9_pile 29 = .ok (.iastore, 1) := by decide +kernel
theorem dX9_pile_30 : decode cX9_pile 30 = .ok (.aload_n 0, 1) := by decide +kernel
theorem dX9_pile_31 : decode cX9_pile 31 = .ok (.dup, 1) := by decide +kernel
theorem dX9_pile_32 : decode cX9_pile 32 = .ok (.getfield 156, 3) := by decide +kernel
theorem dX9_pile_35 : decode cX9_pile 35 = .ok (.iconst 1, 1) := by decide +kernel
theorem dX9_pile_36 : decode cX9_pile 36 = .ok (.iadd, 1) := by decide +kernel
theorem dX9_pile_37 : decode cX9_pile 37 = .ok (.putfield 156, 3) := by decide +kernel
theorem dX9_pile_40 : decode cX9_pile 40 = .ok (.return_, 1) := by decide +kernel
theorem dX9_returns_0 : decode cX9_returns 0 = .ok (.aload_n 0, 1) := by decide +kernel
theorem dX9_returns_1 : decode cX9_returns 1 = .ok (.iload_n 1, 1) := by decide +kernel
theorem dX9_returns_2 : decode cX9_returns 2 = .ok (.putfield 221, 3) := by decide +kernel
theorem dX9_returns_5 : decode cX9_returns 5 = .ok (.aload_n 0, 1) := by decide +kernel
theorem dX9_returns_6 : decode cX9_returns 6 = .ok (.iconst 2, 1) := by decide +kernel
theorem dX9_returns_7 : decode cX9_returns 7 = .ok (.putfield 144, 3) := by decide +kernel
theorem dX9_returns_10 : decode cX9_returns 10 = .ok (.return_, 1) := by decide +kernel
theorem dX9_computes_0 : decode cX9_computes 0 = .ok (.aload_n 0, 1) := by decide +kernel
theorem dX9_computes_1 : decode cX9_computes 1 = .ok (.iload_n 1, 1) := by decide +kernel
theorem dX9_computes_2 : decode cX9_computes 2 = .ok (.putfield 175, 3) := by decide +kernel
theorem dX9_computes_5 : decode cX9_computes 5 = .ok (.aload_n 0, 1) := by decide +kernel
theorem dX9_computes_6 : decode cX9_computes 6 = .ok (.iload_n 2, 1) := by decide +kernel
theorem dX9_computes_7 : decode cX9_computes 7 = .ok (.putfield 178, 3) := by decide +kernel
theorem dX9_computes_10 : decode cX9_computes 10 = .ok (.aload_n 0, 1) := by decide +kernel
theorem dX9_computes_11 : decode cX9_computes 11 = .ok (.iconst 1, 1) := by decide +kernel
theorem dX9_computes_12 : decode cX9_computes 12 = .ok (.putfield 144, 3) := by decide +kernel
theorem dX9_computes_15 : decode cX9_computes 15 = .ok (.return_, 1) := by decide +kernel
theorem dX9_variable_0 : decode cX9_variable 0 = .ok (.aload_n 0, 1) := by decide +kernel
theorem dX9_variable_1 : decode cX9_variable 1 = .ok (.getfield 178, 3) := by decide +kernel
theorem dX9_variable_4 : decode cX9_variable 4 = .ok (.istore_n 2, 1) := by decide +kernel
theorem dX9_variable_5 : decode cX9_variable 5 = .ok (.iconst 1, 1) := by decide +kernel
theorem dX9_variable_6 : decode cX9_variable 6 = .ok (.istore_n 3, 1) := by decide +kernel
theorem dX9_variable_7 : decode cX9_variable 7 = .ok (.iload_n 3, 1) := by decide +kernel
theorem dX9_variable_8 : decode cX9_variable 8 = .ok (.iload_n 1, 1) := by decide +kernel
theorem dX9_variable_9 : decode cX9_variable 9 = .ok (.if_icmp .ge 16, 3) := by decide +kernel
theorem dX9_variable_12 : decode cX9_variable 12 = .ok (.aload_n 0, 1) := by decide +kernel
theorem dX9_variable_13 : decode cX9_variable 13 = .ok (.getfield 65, 3) := by decide +kernel
theorem dX9_variable_16 : decode cX9_variable 16 = .ok (.iload_n 2, 1) := by decide +kernel
theorem dX9_variable_17 : decode cX9_variable 17 = .ok (.iaload, 1) := by decide +kernel
theorem dX9_variable_18 : decode cX9_variable 18 = .ok (.istore_n 2, 1) := by decide +kernel
theorem dX9_variable_19 : decode cX9_variable 19 = .ok (.iinc 3 1, 3) := by decide +kernel
theorem dX9_variable_22 : decode cX9_variable 22 = .ok (.goto (-15), 3) := by decide +kernel
theorem dX9_variable_25 : decode cX9_variable 25 = .ok (.aload_n 0, 1) := by decide +kernel
theorem dX9_variable_26 : decode cX9_variable 26 = .ok (.getfield 62, 3) := by decide +kernel
theorem dX9_variable_29 : decode cX9_variable 29 = .ok (.iload_n 2, 1) := by decide +kernel
theorem dX9_variable_30 : decode cX9_variable 30 = .ok (.iaload, 1) := by decide +kernel
theorem dX9_variable_31 : decode cX9_variable 31 = .ok (.ireturn, 1) := by decide +kernel
theorem dX9_compute_0 : decode cX9_compute 0 = .ok (.aload_n 0, 1) := by decide +kernel
theorem dX9_compute_1 : decode cX9_compute 1 = .ok (.getfield 175, 3) := by decide +kernel
theorem dX9_compute_4 : decode cX9_compute 4 = .ok (.istore_n 1, 1) := by decide +kernel
theorem dX9_compute_5 : decode cX9_compute 5 = .ok (.aload_n 0, 1) := by decide +kernel
theorem dX9_compute_6 : decode cX9_compute 6 = .ok (.getfield 13, 3) := by decide +kernel
theorem dX9_compute_9 : decode cX9_compute 9 = .ok (.iload_n 1, 1) := by decide +kernel
theorem dX9_compute_10 : decode cX9_compute 10 = .ok (.iaload, 1) := by decide +kernel
theorem dX9_compute_11 : decode cX9_compute 11 = .ok (.istore_n 2, 1) := by decide +kernel
theorem dX9_compute_12 : decode cX9_compute 12 = .ok (.iload_n 2, 1) := by decide +kernel
theorem dX9_compute_13 : decode cX9_compute 13 = .ok (.iconst 3, 1) := by decide +kernel
theorem dX9_compute_14 : decode cX9_compute 14 = .ok (.if_icmp .eq 8, 3) := by decide +kernel
theorem dX9_compute_17 : decode cX9_compute 17 = .ok (.iload_n 2, 1) := by decide +kernel
theorem dX9_compute_18 : decode cX9_compute 18 = .ok (.iconst 5, 1) := by decide +kernel
theorem dX9_compute_19 : decode cX9_compute 19 = .ok (.if_icmp .ne 7, 3) := by decide +kernel
theorem dX9_compute_22 : decode cX9_compute 22 = .ok (.iconst 1, 1) := by decide +kernel
theorem dX9_compute_23 : decode cX9_compute 23 = .ok (.goto 4, 3) := by decide +kernel
theorem dX9_compute_26 : decode cX9_compute 26 = .ok (.iconst 0, 1) := by decide +kernel
theorem dX9_compute_27 : decode cX9_compute 27 = .ok (.istore_n 3, 1) := by decide +kernel
theorem dX9_compute_28 : decode cX9_compute 28 = .ok (.iload_n 2, 1) := by decide +kernel
theorem dX9_compute_29 : decode cX9_compute 29 = .ok (.iconst 1, 1) := by decide +kernel
theorem dX9_compute_30 : decode cX9_compute 30 = .ok (.if_icmp .eq 19, 3) := by decide +kernel
theorem dX9_compute_33 : decode cX9_compute 33 = .ok (.iload_n 2, 1) := by decide +kernel
theorem dX9_compute_34 : decode cX9_compute 34 = .ok (.iconst 2, 1) := by decide +kernel
theorem dX9_compute_35 : decode cX9_compute 35 = .ok (.if_icmp .eq 14, 3) := by decide +kernel
theorem dX9_compute_38 : decode cX9_compute 38 = .ok (.iload_n 2, 1) := by decide +kernel
theorem dX9_compute_39 : decode cX9_compute 39 = .ok (.iconst 4, 1) := by decide +kernel
theorem dX9_compute_40 : decode cX9_compute 40 = .ok (.if_icmp .eq 9, 3) := by decide +kernel
theorem dX9_compute_43 : decode cX9_compute 43 = .ok (.iload_n 2, 1) := by decide +kernel
theorem dX9_compute_44 : decode cX9_compute 44 = .ok (.bipush 7, 2) := by decide +kernel
theorem dX9_compute_46 : decode cX9_compute 46 = .ok (.if_icmp .ne 7, 3) := by decide +kernel
theorem dX9_compute_49 : decode cX9_compute 49 = .ok (.iconst 1, 1) := by decide +kernel
theorem dX9_compute_50 : decode cX9_compute 50 = .ok (.goto 4, 3) := by decide +kernel
theorem dX9_compute_53 : decode cX9_compute 53 = .ok (.iconst 0, 1) := by decide +kernel
theorem dX9_compute_54 : decode cX9_compute 54 = .ok (.istore 4, 2) := by decide +kernel
theorem dX9_compute_56 : decode cX9_compute 56 = .ok (.iload_n 3, 1) := by decide +kernel
theorem dX9_compute_57 : decode cX9_compute 57 = .ok (.ifCond .eq 13, 3) := by decide +kernel
theorem dX9_compute_60 : decode cX9_compute 60 = .ok (.aload_n 0, 1) := by decide +kernel
theorem dX9_compute_61 : decode cX9_compute 61 = .ok (.getfield 156, 3) := by decide +kernel
theorem dX9_compute_64 : decode cX9_compute 64 = .ok (.sipush 200, 3) := by decide +kernel
theorem dX9_compute_67 : decode cX9_compute 67 = .ok (.if_icmp .eq 18, 3) := by decide +kernel
theorem dX9_compute_70 : decode cX9_compute 70 = .ok (.iload 4, 2) := by decide +kernel
theorem dX9_compute_72 : decode cX9_compute 72 = .ok (.ifCond .eq 20, 3) := by decide +kernel
theorem dX9_compute_75 : decode cX9_compute 75 = .ok (.aload_n 0, 1) := by decide +kernel
theorem dX9_compute_76 : decode cX9_compute 76 = .ok (.getfield 165, 3) := by decide +kernel
theorem dX9_compute_79 : decode cX9_compute 79 = .ok (.sipush 600, 3) := by decide +kernel
theorem dX9_compute_82 : decode cX9_compute 82 = .ok (.if_icmp .ne 10, 3) := by decide +kernel
theorem dX9_compute_85 : decode cX9_compute 85 = .ok (.aload_n 0, 1) := by decide +kernel
theorem dX9_compute_86 : decode cX9_compute 86 = .ok (.bipush 6, 2) := by decide +kernel
theorem dX9_compute_88 : decode cX9_compute 88 = .ok (.invokevirtual 224, 3) := by decide +kernel
theorem dX9_compute_91 : decode cX9_compute 91 = .ok (.return_, 1) := by decide +kernel
theorem dX9_compute_92 : decode cX9_compute 92 = .ok (.aload_n 0, 1) := by decide +kernel
theorem dX9_compute_93 : decode cX9_compute 93 = .ok (.dup, 1) := by decide +kernel
theorem dX9_compute_94 : decode cX9_compute 94 = .ok (.getfield 165, 3) := by decide +kernel
theorem dX9_compute_97 : decode cX9_compute 97 = .ok (.iload 4, 2) := by decide +kernel
theorem dX9_compute_99 : decode cX9_compute 99 = .ok (.ifCond .eq 7, 3) := by decide +kernel
theorem dX9_compute_102 : decode cX9_compute 102 = .ok (.iconst 1, 1) := by decide +kernel
theorem dX9_compute_103 : decode cX9_compute 103 = .ok (.goto 4, 3) := by decide +kernel
theorem dX9_compute_106 : decode cX9_compute 106 = .ok (.iconst 0, 1) := by decide +kernel
theorem dX9_compute_107 : decode cX9_compute 107 = .ok (.iadd, 1) := by decide +kernel
theorem dX9_compute_108 : decode cX9_compute 108 = .ok (.putfield 165, 3) := by decide +kernel
theorem dX9_compute_111 : decode cX9_compute 111 = .ok (.iload_n 2, 1) := by decide +kernel
theorem dX9_compute_112 : decode cX9_compute 112 = .ok (.ifCond .ne 20, 3) := by decide +kernel
theorem dX9_compute_115 : decode cX9_compute 115 = .ok (.aload_n 0, 1) := by decide +kernel
theorem dX9_compute_116 : decode cX9_compute 116 = .ok (.aload_n 0, 1) := by decide +kernel
theorem dX9_compute_117 : decode cX9_compute 117 = .ok (.aload_n 0, 1) := by decide +kernel
theorem dX9_compute_118 : decode cX9_compute 118 = .ok (.getfield 19, 3) := by decide +kernel
theorem dX9_compute_121 : decode cX9_compute 121 = .ok (.iload_n 1, 1) := by decide +kernel
theorem dX9_compute_122 : decode cX9_compute 122 = .ok (.iaload, 1) := by decide +kernel
theorem dX9_compute_123 : decode cX9_compute 123 = .ok (.invokevirtual 227, 3) := by decide +kernel
theorem dX9_compute_126 : decode cX9_compute 126 = .ok (.invokevirtual 230, 3) := by decide +kernel
theorem dX9_compute_129 : decode cX9_compute 129 = .ok (.goto 214, 3) := by decide +kernel
theorem dX9_compute_132 : decode cX9_compute 132 = .ok (.iload_n 2, 1) := by decide +kernel
theorem dX9_compute_133 : decode cX9_compute 133 = .ok (.iconst 1, 1) := by decide +kernel
theorem dX9_compute_134 : decode cX9_compute 134 = .ok (.if_icmp .eq 8, 3) := by decide +kernel
theorem dX9_compute_137 : decode cX9_compute 137 = .ok (.iload_n 2, 1) := by decide +kernel
theorem dX9_compute_138 : decode cX9_compute 138 = .ok (.iconst 2, 1) := by decide +kernel
theorem dX9_compute_139 : decode cX9_compute 139 = .ok (.if_icmp .ne 39, 3) := by decide +kernel
theorem dX9_compute_142 : decode cX9_compute 142 = .ok (.aload_n 0, 1) := by decide +kernel
theorem dX9_compute_143 : decode cX9_compute 143 = .ok (.iload_n 2, 1) := by decide +kernel
theorem dX9_compute_144 : decode cX9_compute 144 = .ok (.iconst 1, 1) := by decide +kernel
theorem dX9_compute_145 : decode cX9_compute 145 = .ok (.if_icmp .ne 7, 3) := by decide +kernel
theorem dX9_compute_148 : decode cX9_compute 148 = .ok (.iconst 4, 1) := by decide +kernel
theorem dX9_compute_149 : decode cX9_compute 149 = .ok (.goto 4, 3) := by decide +kernel
theorem dX9_compute_152 : decode cX9_compute 152 = .ok (.iconst 5, 1) := by decide +kernel
theorem dX9_compute_153 : decode cX9_compute 153 = .ok (.iconst 0, 1) := by decide +kernel
theorem dX9_compute_154 : decode cX9_compute 154 = .ok (.aload_n 0, 1) := by decide +kernel
theorem dX9_compute_155 : decode cX9_compute 155 = .ok (.getfield 26, 3) := by decide +kernel
theorem dX9_compute_158 : decode cX9_compute 158 = .ok (.iload_n 1, 1) := by decide +kernel
theorem dX9_compute_159 : decode cX9_compute 159 = .ok (.iaload, 1) := by decide +kernel
theorem dX9_compute_160 : decode cX9_compute 160 = .ok (.aload_n 0, 1) := by decide +kernel
theorem dX9_compute_161 : decode cX9_compute 161 = .ok (.getfield 178, 3) := by decide +kernel
theorem dX9_compute_164 : decode cX9_compute 164 = .ok (.invokevirtual 181, 3) := by decide +kernel
theorem dX9_compute_167 : decode cX9_compute 167 = .ok (.istore 5, 2) := by decide +kernel
theorem dX9_compute_169 : decode cX9_compute 169 = .ok (.aload_n 0, 1) := by decide +kernel
theorem dX9_compute_170 : decode cX9_compute 170 = .ok (.iload 5, 2) := by decide +kernel
theorem dX9_compute_172 : decode cX9_compute 172 = .ok (.invokevirtual 230, 3) := by decide +kernel
theorem dX9_compute_175 : decode cX9_compute 175 = .ok (.goto 168, 3) := by decide +kernel
theorem dX9_compute_178 : decode cX9_compute 178 = .ok (.iload_n 2, 1) := by decide +kernel
theorem dX9_compute_179 : decode cX9_compute 179 = .ok (.iconst 4, 1) := by decide +kernel
theorem dX9_compute_180 : decode cX9_compute 180 = .ok (.if_icmp .ne 61, 3) := by decide +kernel
theorem dX9_compute_183 : decode cX9_compute 183 = .ok (.aload_n 0, 1) := by decide +kernel
theorem dX9_compute_184 : decode cX9_compute 184 = .ok (.getfield 16, 3) := by decide +kernel
theorem dX9_compute_187 : decode cX9_compute 187 = .ok (.iload_n 1, 1) := by decide +kernel
theorem dX9_compute_188 : decode cX9_compute 188 = .ok (.iaload, 1) := by decide +kernel
theorem dX9_compute_189 : decode cX9_compute 189 = .ok (.iconst 3, 1) := by decide +kernel
theorem dX9_compute_190 : decode cX9_compute 190 = .ok (.if_icmp .ne 22, 3) := by decide +kernel
theorem dX9_compute_193 : decode cX9_compute 193 = .ok (.aload_n 0, 1) := by decide +kernel
theorem dX9_compute_194 : decode cX9_compute 194 = .ok (.aload_n 0, 1) := by decide +kernel
theorem dX9_compute_195 : decode cX9_compute 195 = .ok (.getfield 19, 3) := by decide +kernel
theorem dX9_compute_198 : decode cX9_compute 198 = .ok (.iload_n 1, 1) := by decide +kernel
theorem dX9_compute_199 : decode cX9_compute 199 = .ok (.iaload, 1) := by decide +kernel
theorem dX9_compute_200 : decode cX9_compute 200 = .ok (.aload_n 0, 1) := by decide +kernel
theorem dX9_compute_201 : decode cX9_compute 201 = .ok (.getfield 22, 3) := by decide +kernel
theorem dX9_compute_204 : decode cX9_compute 204 = .ok (.iload_n 1, 1) := by decide +kernel
theorem dX9_compute_205 : decode cX9_compute 205 = .ok (.laload, 1) := by decide +kernel
theorem dX9_compute_206 : decode cX9_compute 206 = .ok (.invokevirtual 215, 3) := by decide +kernel
theorem dX9_compute_209 : decode cX9_compute 209 = .ok (.goto 21, 3) := by decide +kernel
theorem dX9_compute_212 : decode cX9_compute 212 = .ok (.aload_n 0, 1) := by decide +kernel
theorem dX9_compute_213 : decode cX9_compute 213 = .ok (.aload_n 0, 1) := by decide +kernel
theorem dX9_compute_214 : decode cX9_compute 214 = .ok (.getfield 16, 3) := by decide +kernel
theorem dX9_compute_217 : decode cX9_compute 217 = .ok (.iload_n 1, 1) := by decide +kernel
theorem dX9_compute_218 : decode cX9_compute 218 = .ok (.iaload, 1) := by decide +kernel
theorem dX9_compute_219 : decode cX9_compute 219 = .ok (.aload_n 0, 1) := by decide +kernel
theorem dX9_compute_220 : decode cX9_compute 220 = .ok (.getfield 19, 3) := by decide +kernel
theorem dX9_compute_223 : decode cX9_compute 223 = .ok (.iload_n 1, 1) := by decide +kernel
theorem dX9_compute_224 : decode cX9_compute 224 = .ok (.iaload, 1) := by decide +kernel
theorem dX9_compute_225 : decode cX9_compute 225 = .ok (.iconst 0, 1) := by decide +kernel
theorem dX9_compute_226 : decode cX9_compute 226 = .ok (.iconst 0, 1) := by decide +kernel
theorem dX9_compute_227 : decode cX9_compute 227 = .ok (.invokevirtual 181, 3) := by decide +kernel
theorem dX9_compute_230 : decode cX9_compute 230 = .ok (.istore 5, 2) := by decide +kernel
theorem dX9_compute_232 : decode cX9_compute 232 = .ok (.aload_n 0, 1) := by decide +kernel
theorem dX9_compute_233 : decode cX9_compute 233 = .ok (.iload 5, 2) := by decide +kernel
theorem dX9_compute_235 : decode cX9_compute 235 = .ok (.invokevirtual 230, 3) := by decide +kernel
theorem dX9_compute_238 : decode cX9_compute 238 = .ok (.goto 105, 3) := by decide +kernel
theorem dX9_compute_241 : decode cX9_compute 241 = .ok (.iload_n 2, 1) := by decide +kernel
theorem dX9_compute_242 : decode cX9_compute 242 = .ok (.bipush 7, 2) := by decide +kernel
theorem dX9_compute_244 : decode cX9_compute 244 = .ok (.if_icmp .ne 28, 3) := by decide +kernel
theorem dX9_compute_247 : decode cX9_compute 247 = .ok (.aload_n 0, 1) := by decide +kernel
theorem dX9_compute_248 : decode cX9_compute 248 = .ok (.bipush 6, 2) := by decide +kernel
theorem dX9_compute_250 : decode cX9_compute 250 = .ok (.iconst 0, 1) := by decide +kernel
theorem dX9_compute_251 : decode cX9_compute 251 = .ok (.aload_n 0, 1) := by decide +kernel
theorem dX9_compute_252 : decode cX9_compute 252 = .ok (.getfield 19, 3) := by decide +kernel
theorem dX9_compute_255 : decode cX9_compute 255 = .ok (.iload_n 1, 1) := by decide +kernel
theorem dX9_compute_256 : decode cX9_compute 256 = .ok (.iaload, 1) := by decide +kernel
theorem dX9_compute_257 : decode cX9_compute 257 = .ok (.iconst 0, 1) := by decide +kernel
theorem dX9_compute_258 : decode cX9_compute 258 = .ok (.invokevirtual 181, 3) := by decide +kernel
theorem dX9_compute_261 : decode cX9_compute 261 = .ok (.istore 5, 2) := by decide +kernel
theorem dX9_compute_263 : decode cX9_compute 263 = .ok (.aload_n 0, 1) := by decide +kernel
theorem dX9_compute_264 : decode cX9_compute 264 = .ok (.iload 5, 2) := by decide +kernel
theorem dX9_compute_266 : decode cX9_compute 266 = .ok (.invokevirtual 230, 3) := by decide +kernel
theorem dX9_compute_269 : decode cX9_compute 269 = .ok (.goto 74, 3) := by decide +kernel
theorem dX9_compute_272 : decode cX9_compute 272 = .ok (.iload_n 2, 1) := by decide +kernel
theorem dX9_compute_273 : decode cX9_compute 273 = .ok (.iconst 3, 1) := by decide +kernel
theorem dX9_compute_274 : decode cX9_compute 274 = .ok (.if_icmp .ne 35, 3) := by decide +kernel
theorem dX9_compute_277 : decode cX9_compute 277 = .ok (.aload_n 0, 1) := by decide +kernel
theorem dX9_compute_278 : decode cX9_compute 278 = .ok (.iconst 0, 1) := by decide +kernel
theorem dX9_compute_279 : decode cX9_compute 279 = .ok (.aload_n 0, 1) := by decide +kernel
theorem dX9_compute_280 : decode cX9_compute 280 = .ok (.getfield 29, 3) := by decide +kernel
theorem dX9_compute_283 : decode cX9_compute 283 = .ok (.iload_n 1, 1) := by decide +kernel
theorem dX9_compute_284 : decode cX9_compute 284 = .ok (.iaload, 1) := by decide +kernel
theorem dX9_compute_285 : decode cX9_compute 285 = .ok (.aload_n 0, 1) := by decide +kernel
theorem dX9_compute_286 : decode cX9_compute 286 = .ok (.getfield 178, 3) := by decide +kernel
theorem dX9_compute_289 : decode cX9_compute 289 = .ok (.invokevirtual 233, 3) := by decide +kernel
theorem dX9_compute_292 : decode cX9_compute 292 = .ok (.aload_n 0, 1) := by decide +kernel
theorem dX9_compute_293 : decode cX9_compute 293 = .ok (.aload_n 0, 1) := by decide +kernel
theorem dX9_compute_294 : decode cX9_compute 294 = .ok (.getfield 26, 3) := by decide +kernel
theorem dX9_compute_297 : decode cX9_compute 297 = .ok (.iload_n 1, 1) := by decide +kernel
theorem dX9_compute_298 : decode cX9_compute 298 = .ok (.iaload, 1) := by decide +kernel
theorem dX9_compute_299 : decode cX9_compute 299 = .ok (.aload_n 0, 1) := by decide +kernel
theorem dX9_compute_300 : decode cX9_compute 300 = .ok (.getfield 178, 3) := by decide +kernel
theorem dX9_compute_303 : decode cX9_compute 303 = .ok (.invokevirtual 236, 3) := by decide +kernel
theorem dX9_compute_306 : decode cX9_compute 306 = .ok (.goto 37, 3) := by decide +kernel
theorem dX9_compute_309 : decode cX9_compute 309 = .ok (.iload_n 2, 1) := by decide +kernel
theorem dX9_compute_310 : decode cX9_compute 310 = .ok (.iconst 5, 1) := by decide +kernel
theorem dX9_compute_311 : decode cX9_compute 311 = .ok (.if_icmp .ne 27, 3) := by decide +kernel
theorem dX9_compute_314 : decode cX9_compute 314 = .ok (.aload_n 0, 1) := by decide +kernel
theorem dX9_compute_315 : decode cX9_compute 315 = .ok (.iconst 1, 1) := by decide +kernel
theorem dX9_compute_316 : decode cX9_compute 316 = .ok (.iconst 0, 1) := by decide +kernel
theorem dX9_compute_317 : decode cX9_compute 317 = .ok (.iconst 0, 1) := by decide +kernel
theorem dX9_compute_318 : decode cX9_compute 318 = .ok (.invokevirtual 233, 3) := by decide +kernel
theorem dX9_compute_321 : decode cX9_compute 321 = .ok (.aload_n 0, 1) := by decide +kernel
theorem dX9_compute_322 : decode cX9_compute 322 = .ok (.aload_n 0, 1) := by decide +kernel
theorem dX9_compute_323 : decode cX9_compute 323 = .ok (.getfield 26, 3) := by decide +kernel
theorem dX9_compute_326 : decode cX9_compute 326 = .ok (.iload_n 1, 1) := by decide +kernel
theorem dX9_compute_327 : decode cX9_compute 327 = .ok (.iaload, 1) := by decide +kernel
theorem dX9_compute_328 : decode cX9_compute 328 = .ok (.aload_n 0, 1) := by decide +kernel
theorem dX9_compute_329 : decode cX9_compute 329 = .ok (.getfield 178, 3) := by decide +kernel
theorem dX9_compute_332 : decode cX9_compute 332 = .ok (.invokevirtual 236, 3) := by decide +kernel
theorem dX9_compute_335 : decode cX9_compute 335 = .ok (.goto 8, 3) := by decide +kernel
theorem dX9_compute_338 : decode cX9_compute 338 = .ok (.aload_n 0, 1) := by decide +kernel
theorem dX9_compute_339 : decode cX9_compute 339 = .ok (.iconst 2, 1) := by decide +kernel
theorem dX9_compute_340 : decode cX9_compute 340 = .ok (.invokevirtual 224, 3) := by decide +kernel
theorem dX9_compute_343 : decode cX9_compute 343 = .ok (.return_, 1) := by decide +kernel
theorem dX9_more_0 : decode cX9_more 0 = .ok (.aload_n 0, 1) := by decide +kernel
theorem dX9_more_1 : decode cX9_more 1 = .ok (.bipush 6, 2) := by decide +kernel
theorem dX9_more_3 : decode cX9_more 3 = .ok (.iconst 0, 1) := by decide +kernel
theorem dX9_more_4 : decode cX9_more 4 = .ok (.aload_n 0, 1) := by decide +kernel
theorem dX9_more_5 : decode cX9_more 5 = .ok (.getfield 50, 3) := by decide +kernel
theorem dX9_more_8 : decode cX9_more 8 = .ok (.iload_n 1, 1) := by decide +kernel
theorem dX9_more_9 : decode cX9_more 9 = .ok (.iaload, 1) := by decide +kernel
theorem dX9_more_10 : decode cX9_more 10 = .ok (.aload_n 0, 1) := by decide +kernel
theorem dX9_more_11 : decode cX9_more 11 = .ok (.getfield 53, 3) := by decide +kernel
theorem dX9_more_14 : decode cX9_more 14 = .ok (.iload_n 1, 1) := by decide +kernel
theorem dX9_more_15 : decode cX9_more 15 = .ok (.iaload, 1) := by decide +kernel
theorem dX9_more_16 : decode cX9_more 16 = .ok (.iload_n 2, 1) := by decide +kernel
theorem dX9_more_17 : decode cX9_more 17 = .ok (.iconst (-1), 1) := by decide +kernel
theorem dX9_more_18 : decode cX9_more 18 = .ok (.if_icmp .ne 7, 3) := by decide +kernel
theorem dX9_more_21 : decode cX9_more 21 = .ok (.iconst 1, 1) := by decide +kernel
theorem dX9_more_22 : decode cX9_more 22 = .ok (.goto 4, 3) := by decide +kernel
theorem dX9_more_25 : decode cX9_more 25 = .ok (.iconst 0, 1) := by decide +kernel
theorem dX9_more_26 : decode cX9_more 26 = .ok (.iadd, 1) := by decide +kernel
theorem dX9_more_27 : decode cX9_more 27 = .ok (.invokevirtual 181, 3) := by decide +kernel
theorem dX9_more_30 : decode cX9_more 30 = .ok (.istore_n 3, 1) := by decide +kernel
theorem dX9_more_31 : decode cX9_more 31 = .ok (.iconst 0, 1) := by decide +kernel
theorem dX9_more_32 : decode cX9_more 32 = .ok (.istore 4, 2) := by decide +kernel
theorem dX9_more_34 : decode cX9_more 34 = .ok (.iload 4, 2) := by decide +kernel
theorem dX9_more_36 : decode cX9_more 36 = .ok (.aload_n 0, 1) := by decide +kernel
theorem dX9_more_37 : decode cX9_more 37 = .ok (.getfield 56, 3) := by decide +kernel
theorem dX9_more_40 : decode cX9_more 40 = .ok (.iload_n 1, 1) := by decide +kernel
theorem dX9_more_41 : decode cX9_more 41 = .ok (.iaload, 1) := by decide +kernel
theorem dX9_more_42 : decode cX9_more 42 = .ok (.if_icmp .ge 31, 3) := by decide +kernel
theorem dX9_more_45 : decode cX9_more 45 = .ok (.aload_n 0, 1) := by decide +kernel
theorem dX9_more_46 : decode cX9_more 46 = .ok (.getfield 59, 3) := by decide +kernel
theorem dX9_more_49 : decode cX9_more 49 = .ok (.iconst 3, 1) := by decide +kernel
theorem dX9_more_50 : decode cX9_more 50 = .ok (.iload_n 3, 1) := by decide +kernel
theorem dX9_more_51 : decode cX9_more 51 = .ok (.imul, 1) := by decide +kernel
theorem dX9_more_52 : decode cX9_more 52 = .ok (.iload 4, 2) := by decide +kernel
theorem dX9_more_54 : decode cX9_more 54 = .ok (.iadd, 1) := by decide +kernel
theorem dX9_more_55 : decode cX9_more 55 = .ok (.aload_n 0, 1) := by decide +kernel
theorem dX9_more_56 : decode cX9_more 56 = .ok (.getfield 59, 3) := by decide +kernel
theorem dX9_more_59 : decode cX9_more 59 = .ok (.iconst 3, 1) := by decide +kernel
theorem dX9_more_60 : decode cX9_more 60 = .ok (.iload_n 1, 1) := by decide +kernel
theorem dX9_more_61 : decode cX9_more 61 = .ok (.imul, 1) := by decide +kernel
theorem dX9_more_62 : decode cX9_more 62 = .ok (.iload 4, 2) := by decide +kernel
theorem dX9_more_64 : decode cX9_more 64 = .ok (.iadd, 1) := by decide +kernel
theorem dX9_more_65 : decode cX9_more 65 = .ok (.iaload, 1) := by decide +kernel
theorem dX9_more_66 : decode cX9_more 66 = .ok (.iastore, 1) := by decide +kernel
theorem dX9_more_67 : decode cX9_more 67 = .ok (.iinc 4 1, 3) := by decide +kernel
theorem dX9_more_70 : decode cX9_more 70 = .ok (.goto (-36), 3) := by decide +kernel
theorem dX9_more_73 : decode cX9_more 73 = .ok (.aload_n 0, 1) := by decide +kernel
theorem dX9_more_74 : decode cX9_more 74 = .ok (.getfield 56, 3) := by decide +kernel
theorem dX9_more_77 : decode cX9_more 77 = .ok (.iload_n 3, 1) := by decide +kernel
theorem dX9_more_78 : decode cX9_more 78 = .ok (.aload_n 0, 1) := by decide +kernel
theorem dX9_more_79 : decode cX9_more 79 = .ok (.getfield 56, 3) := by decide +kernel
theorem dX9_more_82 : decode cX9_more 82 = .ok (.iload_n 1, 1) := by decide +kernel
theorem dX9_more_83 : decode cX9_more 83 = .ok (.iaload, 1) := by decide +kernel
theorem dX9_more_84 : decode cX9_more 84 = .ok (.iastore, 1) := by decide +kernel
theorem dX9_more_85 : decode cX9_more 85 = .ok (.iload_n 2, 1) := by decide +kernel
theorem dX9_more_86 : decode cX9_more 86 = .ok (.iconst (-1), 1) := by decide +kernel
theorem dX9_more_87 : decode cX9_more 87 = .ok (.if_icmp .eq 29, 3) := by decide +kernel
theorem dX9_more_90 : decode cX9_more 90 = .ok (.aload_n 0, 1) := by decide +kernel
theorem dX9_more_91 : decode cX9_more 91 = .ok (.getfield 59, 3) := by decide +kernel
theorem dX9_more_94 : decode cX9_more 94 = .ok (.iconst 3, 1) := by decide +kernel
theorem dX9_more_95 : decode cX9_more 95 = .ok (.iload_n 3, 1) := by decide +kernel
theorem dX9_more_96 : decode cX9_more 96 = .ok (.imul, 1) := by decide +kernel
theorem dX9_more_97 : decode cX9_more 97 = .ok (.aload_n 0, 1) := by decide +kernel
theorem dX9_more_98 : decode cX9_more 98 = .ok (.getfield 56, 3) := by decide +kernel
theorem dX9_more_101 : decode cX9_more 101 = .ok (.iload_n 3, 1) := by decide +kernel
theorem dX9_more_102 : decode cX9_more 102 = .ok (.iaload, 1) := by decide +kernel
theorem dX9_more_103 : decode cX9_more 103 = .ok (.iadd, 1) := by decide +kernel
theorem dX9_more_104 : decode cX9_more 104 = .ok (.iload_n 2, 1) := by decide +kernel
theorem dX9_more_105 : decode cX9_more 105 = .ok (.iastore, 1) := by decide +kernel
theorem dX9_more_106 : decode cX9_more 106 = .ok (.aload_n 0, 1) := by decide +kernel
theorem dX9_more_107 : decode cX9_more 107 = .ok (.getfield 56, 3) := by decide +kernel
theorem dX9_more_110 : decode cX9_more 110 = .ok (.iload_n 3, 1) := by decide +kernel
theorem dX9_more_111 : decode cX9_more 111 = .ok (.dup2, 1) := by decide +kernel
theorem dX9_more_112 : decode cX9_more 112 = .ok (.iaload, 1) := by decide +kernel
theorem dX9_more_113 : decode cX9_more 113 = .ok (.iconst 1, 1) := by decide +kernel
theorem dX9_more_114 : decode cX9_more 114 = .ok (.iadd, 1) := by decide +kernel
theorem dX9_more_115 : decode cX9_more 115 = .ok (.iastore, 1) := by decide +kernel
theorem dX9_more_116 : decode cX9_more 116 = .ok (.iload_n 3, 1) := by decide +kernel
theorem dX9_more_117 : decode cX9_more 117 = .ok (.ireturn, 1) := by decide +kernel
theorem dX9_forces_0 : decode cX9_forces 0 = .ok (.aload_n 0, 1) := by decide +kernel
theorem dX9_forces_1 : decode cX9_forces 1 = .ok (.getfield 41, 3) := by decide +kernel
theorem dX9_forces_4 : decode cX9_forces 4 = .ok (.iload_n 1, 1) := by decide +kernel
theorem dX9_forces_5 : decode cX9_forces 5 = .ok (.iaload, 1) := by decide +kernel
theorem dX9_forces_6 : decode cX9_forces 6 = .ok (.iconst 4, 1) := by decide +kernel
theorem dX9_forces_7 : decode cX9_forces 7 = .ok (.if_icmp .ne 7, 3) := by decide +kernel
theorem dX9_forces_10 : decode cX9_forces 10 = .ok (.iconst 1, 1) := by decide +kernel
theorem dX9_forces_11 : decode cX9_forces 11 = .ok (.goto 4, 3) := by decide +kernel
theorem dX9_forces_14 : decode cX9_forces 14 = .ok (.iconst 0, 1) := by decide +kernel
theorem dX9_forces_15 : decode cX9_forces 15 = .ok (.istore_n 2, 1) := by decide +kernel
theorem dX9_forces_16 : decode cX9_forces 16 = .ok (.iload_n 2, 1) := by decide +kernel
theorem dX9_forces_17 : decode cX9_forces 17 = .ok (.ifCond .ne 28, 3) := by decide +kernel
theorem dX9_forces_20 : decode cX9_forces 20 = .ok (.aload_n 0, 1) := by decide +kernel
theorem dX9_forces_21 : decode cX9_forces 21 = .ok (.iload_n 1, 1) := by decide +kernel
theorem dX9_forces_22 : decode cX9_forces 22 = .ok (.invokevirtual 188, 3) := by decide +kernel
theorem dX9_forces_25 : decode cX9_forces 25 = .ok (.ifCond .eq 20, 3) := by decide +kernel
theorem dX9_forces_28 : decode cX9_forces 28 = .ok (.aload_n 0, 1) := by decide +kernel
theorem dX9_forces_29 : decode cX9_forces 29 = .ok (.getfield 165, 3) := by decide +kernel
theorem dX9_forces_32 : decode cX9_forces 32 = .ok (.sipush 600, 3) := by decide +kernel
theorem dX9_forces_35 : decode cX9_forces 35 = .ok (.if_icmp .ne 10, 3) := by decide +kernel
theorem dX9_forces_38 : decode cX9_forces 38 = .ok (.aload_n 0, 1) := by decide +kernel
theorem dX9_forces_39 : decode cX9_forces 39 = .ok (.bipush 6, 2) := by decide +kernel
theorem dX9_forces_41 : decode cX9_forces 41 = .ok (.invokevirtual 224, 3) := by decide +kernel
theorem dX9_forces_44 : decode cX9_forces 44 = .ok (.return_, 1) := by decide +kernel
theorem dX9_forces_45 : decode cX9_forces 45 = .ok (.aload_n 0, 1) := by decide +kernel
theorem dX9_forces_46 : decode cX9_forces 46 = .ok (.dup, 1) := by decide +kernel
theorem dX9_forces_47 : decode cX9_forces 47 = .ok (.getfield 156, 3) := by decide +kernel
theorem dX9_forces_50 : decode cX9_forces 50 = .ok (.iconst 1, 1) := by decide +kernel
theorem dX9_forces_51 : decode cX9_forces 51 = .ok (.isub, 1) := by decide +kernel
theorem dX9_forces_52 : decode cX9_forces 52 = .ok (.putfield 156, 3) := by decide +kernel
theorem dX9_forces_55 : decode cX9_forces 55 = .ok (.iload_n 2, 1) := by decide +kernel
theorem dX9_forces_56 : decode cX9_forces 56 = .ok (.ifCond .eq 22, 3) := by decide +kernel
theorem dX9_forces_59 : decode cX9_forces 59 = .ok (.aload_n 0, 1) := by decide +kernel
theorem dX9_forces_60 : decode cX9_forces 60 = .ok (.aload_n 0, 1) := by decide +kernel
theorem dX9_forces_61 : decode cX9_forces 61 = .ok (.getfield 50, 3) := by decide +kernel
theorem dX9_forces_64 : decode cX9_forces 64 = .ok (.iload_n 1, 1) := by decide +kernel
theorem dX9_forces_65 : decode cX9_forces 65 = .ok (.iaload, 1) := by decide +kernel
theorem dX9_forces_66 : decode cX9_forces 66 = .ok (.aload_n 0, 1) := by decide +kernel
theorem dX9_forces_67 : decode cX9_forces 67 = .ok (.getfield 53, 3) := by decide +kernel
theorem dX9_forces_70 : decode cX9_forces 70 = .ok (.iload_n 1, 1) := by decide +kernel
theorem dX9_forces_71 : decode cX9_forces 71 = .ok (.iaload, 1) := by decide +kernel
theorem dX9_forces_72 : decode cX9_forces 72 = .ok (.invokevirtual 236, 3) := by decide +kernel
theorem dX9_forces_75 : decode cX9_forces 75 = .ok (.goto 41, 3) := by decide +kernel
theorem dX9_forces_78 : decode cX9_forces 78 = .ok (.aload_n 0, 1) := by decide +kernel
theorem dX9_forces_79 : decode cX9_forces 79 = .ok (.iload_n 1, 1) := by decide +kernel
theorem dX9_forces_80 : decode cX9_forces 80 = .ok (.invokevirtual 188, 3) := by decide +kernel
theorem dX9_forces_83 : decode cX9_forces 83 = .ok (.ifCond .eq 28, 3) := by decide +kernel
theorem dX9_forces_86 : decode cX9_forces 86 = .ok (.aload_n 0, 1) := by decide +kernel
theorem dX9_forces_87 : decode cX9_forces 87 = .ok (.dup, 1) := by decide +kernel
theorem dX9_forces_88 : decode cX9_forces 88 = .ok (.getfield 165, 3) := by decide +kernel
theorem dX9_forces_91 : decode cX9_forces 91 = .ok (.iconst 1, 1) := by decide +kernel
theorem dX9_forces_92 : decode cX9_forces 92 = .ok (.iadd, 1) := by decide +kernel
theorem dX9_forces_93 : decode cX9_forces 93 = .ok (.putfield 165, 3) := by decide +kernel
theorem dX9_forces_96 : decode cX9_forces 96 = .ok (.aload_n 0, 1) := by decide +kernel
theorem dX9_forces_97 : decode cX9_forces 97 = .ok (.iload_n 1, 1) := by decide +kernel
theorem dX9_forces_98 : decode cX9_forces 98 = .ok (.iconst (-1), 1) := by decide +kernel
theorem dX9_forces_99 : decode cX9_forces 99 = .ok (.invokevirtual 240, 3) := by decide +kernel
theorem dX9_forces_102 : decode cX9_forces 102 = .ok (.istore_n 3, 1) := by decide +kernel
theorem dX9_forces_103 : decode cX9_forces 103 = .ok (.aload_n 0, 1) := by decide +kernel
theorem dX9_forces_104 : decode cX9_forces 104 = .ok (.iload_n 3, 1) := by decide +kernel
theorem dX9_forces_105 : decode cX9_forces 105 = .ok (.invokevirtual 230, 3) := by decide +kernel
theorem dX9_forces_108 : decode cX9_forces 108 = .ok (.goto 8, 3) := by decide +kernel
theorem dX9_forces_111 : decode cX9_forces 111 = .ok (.aload_n 0, 1) := by decide +kernel
theorem dX9_forces_112 : decode cX9_forces 112 = .ok (.iconst 3, 1) := by decide +kernel
theorem dX9_forces_113 : decode cX9_forces 113 = .ok (.invokevirtual 224, 3) := by decide +kernel
theorem dX9_forces_116 : decode cX9_forces 116 = .ok (.return_, 1) := by decide +kernel
theorem dX9_applies_0 : decode cX9_applies 0 = .ok (.aload_n 0, 1) := by decide +kernel
theorem dX9_applies_1 : decode cX9_applies 1 = .ok (.getfield 41, 3) := by decide +kernel
theorem dX9_applies_4 : decode cX9_applies 4 = .ok (.iload_n 1, 1) := by decide +kernel
theorem dX9_applies_5 : decode cX9_applies 5 = .ok (.iaload, 1) := by decide +kernel
theorem dX9_applies_6 : decode cX9_applies 6 = .ok (.iconst 5, 1) := by decide +kernel
theorem dX9_applies_7 : decode cX9_applies 7 = .ok (.if_icmp .ne 7, 3) := by decide +kernel
theorem dX9_applies_10 : decode cX9_applies 10 = .ok (.iconst 1, 1) := by decide +kernel
theorem dX9_applies_11 : decode cX9_applies 11 = .ok (.goto 4, 3) := by decide +kernel
theorem dX9_applies_14 : decode cX9_applies 14 = .ok (.iconst 0, 1) := by decide +kernel
theorem dX9_applies_15 : decode cX9_applies 15 = .ok (.istore_n 3, 1) := by decide +kernel
theorem dX9_applies_16 : decode cX9_applies 16 = .ok (.iload_n 3, 1) := by decide +kernel
theorem dX9_applies_17 : decode cX9_applies 17 = .ok (.ifCond .ne 27, 3) := by decide +kernel
theorem dX9_applies_20 : decode cX9_applies 20 = .ok (.aload_n 0, 1) := by decide +kernel
theorem dX9_applies_21 : decode cX9_applies 21 = .ok (.iload_n 1, 1) := by decide +kernel
theorem dX9_applies_22 : decode cX9_applies 22 = .ok (.invokevirtual 243, 3) := by decide +kernel
theorem dX9_applies_25 : decode cX9_applies 25 = .ok (.ifCond .ne 19, 3) := by decide +kernel
theorem dX9_applies_28 : decode cX9_applies 28 = .ok (.aload_n 0, 1) := by decide +kernel
theorem dX9_applies_29 : decode cX9_applies 29 = .ok (.dup, 1) := by decide +kernel
theorem dX9_applies_30 : decode cX9_applies 30 = .ok (.getfield 156, 3) := by decide +kernel
theorem dX9_applies_33 : decode cX9_applies 33 = .ok (.iconst 1, 1) := by decide +kernel
theorem dX9_applies_34 : decode cX9_applies 34 = .ok (.isub, 1) := by decide +kernel
theorem dX9_applies_35 : decode cX9_applies 35 = .ok (.putfield 156, 3) := by decide +kernel
theorem dX9_applies_38 : decode cX9_applies 38 = .ok (.aload_n 0, 1) := by decide +kernel
theorem dX9_applies_39 : decode cX9_applies 39 = .ok (.iconst 3, 1) := by decide +kernel
theorem dX9_applies_40 : decode cX9_applies 40 = .ok (.invokevirtual 224, 3) := by decide +kernel
theorem dX9_applies_43 : decode cX9_applies 43 = .ok (.return_, 1) := by decide +kernel
theorem dX9_applies_44 : decode cX9_applies 44 = .ok (.iload_n 3, 1) := by decide +kernel
theorem dX9_applies_45 : decode cX9_applies 45 = .ok (.ifCond .ne 27, 3) := by decide +kernel
theorem dX9_applies_48 : decode cX9_applies 48 = .ok (.aload_n 0, 1) := by decide +kernel
theorem dX9_applies_49 : decode cX9_applies 49 = .ok (.getfield 56, 3) := by decide +kernel
theorem dX9_applies_52 : decode cX9_applies 52 = .ok (.iload_n 1, 1) := by decide +kernel
theorem dX9_applies_53 : decode cX9_applies 53 = .ok (.iaload, 1) := by decide +kernel
theorem dX9_applies_54 : decode cX9_applies 54 = .ok (.iconst 1, 1) := by decide +kernel
theorem dX9_applies_55 : decode cX9_applies 55 = .ok (.iadd, 1) := by decide +kernel
theorem dX9_applies_56 : decode cX9_applies 56 = .ok (.aload_n 0, 1) := by decide +kernel
theorem dX9_applies_57 : decode cX9_applies 57 = .ok (.getfield 50, 3) := by decide +kernel
theorem dX9_applies_60 : decode cX9_applies 60 = .ok (.iload_n 1, 1) := by decide +kernel
theorem dX9_applies_61 : decode cX9_applies 61 = .ok (.iaload, 1) := by decide +kernel
theorem dX9_applies_62 : decode cX9_applies 62 = .ok (.invokestatic 192, 3) := by decide +kernel
theorem dX9_applies_65 : decode cX9_applies 65 = .ok (.if_icmp .ne 7, 3) := by decide +kernel
theorem dX9_applies_68 : decode cX9_applies 68 = .ok (.iconst 1, 1) := by decide +kernel
theorem dX9_applies_69 : decode cX9_applies 69 = .ok (.goto 4, 3) := by decide +kernel
theorem dX9_applies_72 : decode cX9_applies 72 = .ok (.iconst 0, 1) := by decide +kernel
theorem dX9_applies_73 : decode cX9_applies 73 = .ok (.istore 4, 2) := by decide +kernel
theorem dX9_applies_75 : decode cX9_applies 75 = .ok (.iload 4, 2) := by decide +kernel
theorem dX9_applies_77 : decode cX9_applies 77 = .ok (.ifCond .eq 16, 3) := by decide +kernel
theorem dX9_applies_80 : decode cX9_applies 80 = .ok (.aload_n 0, 1) := by decide +kernel
theorem dX9_applies_81 : decode cX9_applies 81 = .ok (.iload_n 1, 1) := by decide +kernel
theorem dX9_applies_82 : decode cX9_applies 82 = .ok (.iload_n 2, 1) := by decide +kernel
theorem dX9_applies_83 : decode cX9_applies 83 = .ok (.invokevirtual 246, 3) := by decide +kernel
theorem dX9_applies_86 : decode cX9_applies 86 = .ok (.ifCond .eq 7, 3) := by decide +kernel
theorem dX9_applies_89 : decode cX9_applies 89 = .ok (.iconst 1, 1) := by decide +kernel
theorem dX9_applies_90 : decode cX9_applies 90 = .ok (.goto 4, 3) := by decide +kernel
theorem dX9_applies_93 : decode cX9_applies 93 = .ok (.iconst 0, 1) := by decide +kernel
theorem dX9_applies_94 : decode cX9_applies 94 = .ok (.istore 5, 2) := by decide +kernel
theorem dX9_applies_96 : decode cX9_applies 96 = .ok (.iload 5, 2) := by decide +kernel
theorem dX9_applies_98 : decode cX9_applies 98 = .ok (.ifCond .eq 29, 3) := by decide +kernel
theorem dX9_applies_101 : decode cX9_applies 101 = .ok (.aload_n 0, 1) := by decide +kernel
theorem dX9_applies_102 : decode cX9_applies 102 = .ok (.getfield 50, 3) := by decide +kernel
theorem dX9_applies_105 : decode cX9_applies 105 = .ok (.iload_n 1, 1) := by decide +kernel
theorem dX9_applies_106 : decode cX9_applies 106 = .ok (.iaload, 1) := by decide +kernel
theorem dX9_applies_107 : decode cX9_applies 107 = .ok (.bipush 6, 2) := by decide +kernel
theorem dX9_applies_109 : decode cX9_applies 109 = .ok (.if_icmp .eq 18, 3) := by decide +kernel
theorem dX9_applies_112 : decode cX9_applies 112 = .ok (.aload_n 0, 1) := by decide +kernel
theorem dX9_applies_113 : decode cX9_applies 113 = .ok (.getfield 50, 3) := by decide +kernel
theorem dX9_applies_116 : decode cX9_applies 116 = .ok (.iload_n 1, 1) := by decide +kernel
theorem dX9_applies_117 : decode cX9_applies 117 = .ok (.iaload, 1) := by decide +kernel
theorem dX9_applies_118 : decode cX9_applies 118 = .ok (.bipush 10, 2) := by decide +kernel
theorem dX9_applies_120 : decode cX9_applies 120 = .ok (.if_icmp .eq 7, 3) := by decide +kernel
theorem dX9_applies_123 : decode cX9_applies 123 = .ok (.iconst 2, 1) := by decide +kernel
theorem dX9_applies_124 : decode cX9_applies 124 = .ok (.goto 4, 3) := by decide +kernel
theorem dX9_applies_127 : decode cX9_applies 127 = .ok (.iconst 1, 1) := by decide +kernel
theorem dX9_applies_128 : decode cX9_applies 128 = .ok (.istore 6, 2) := by decide +kernel
theorem dX9_applies_130 : decode cX9_applies 130 = .ok (.aload_n 0, 1) := by decide +kernel
theorem dX9_applies_131 : decode cX9_applies 131 = .ok (.getfield 165, 3) := by decide +kernel
theorem dX9_applies_134 : decode cX9_applies 134 = .ok (.iload 6, 2) := by decide +kernel
theorem dX9_applies_136 : decode cX9_applies 136 = .ok (.iadd, 1) := by decide +kernel
theorem dX9_applies_137 : decode cX9_applies 137 = .ok (.sipush 600, 3) := by decide +kernel
theorem dX9_applies_140 : decode cX9_applies 140 = .ok (.if_icmp .le 10, 3) := by decide +kernel
theorem dX9_applies_143 : decode cX9_applies 143 = .ok (.aload_n 0, 1) := by decide +kernel
theorem dX9_applies_144 : decode cX9_applies 144 = .ok (.bipush 6, 2) := by decide +kernel
theorem dX9_applies_146 : decode cX9_applies 146 = .ok (.invokevirtual 224, 3) := by decide +kernel
theorem dX9_applies_149 : decode cX9_applies 149 = .ok (.return_, 1) := by decide +kernel
theorem dX9_applies_150 : decode cX9_applies 150 = .ok (.aload_n 0, 1) := by decide +kernel
theorem dX9_applies_151 : decode cX9_applies 151 = .ok (.dup, 1) := by decide +kernel
theorem dX9_applies_152 : decode cX9_applies 152 = .ok (.getfield 165, 3) := by decide +kernel
theorem dX9_applies_155 : decode cX9_applies 155 = .ok (.iload 6, 2) := by decide +kernel
theorem dX9_applies_157 : decode cX9_applies 157 = .ok (.iadd, 1) := by decide +kernel
theorem dX9_applies_158 : decode cX9_applies 158 = .ok (.putfield 165, 3) := by decide +kernel
theorem dX9_applies_161 : decode cX9_applies 161 = .ok (.aload_n 0, 1) := by decide +kernel
theorem dX9_applies_162 : decode cX9_applies 162 = .ok (.dup, 1) := by decide +kernel
theorem dX9_applies_163 : decode cX9_applies 163 = .ok (.getfield 156, 3) := by decide +kernel
theorem dX9_applies_166 : decode cX9_applies 166 = .ok (.iconst 1, 1) := by decide +kernel
theorem dX9_applies_167 : decode cX9_applies 167 = .ok (.isub, 1) := by decide +kernel
theorem dX9_applies_168 : decode cX9_applies 168 = .ok (.putfield 156, 3) := by decide +kernel
theorem dX9_applies_171 : decode cX9_applies 171 = .ok (.iload_n 3, 1) := by decide +kernel
theorem dX9_applies_172 : decode cX9_applies 172 = .ok (.ifCond .eq 57, 3) := by decide +kernel
theorem dX9_applies_175 : decode cX9_applies 175 = .ok (.aload_n 0, 1) := by decide +kernel
theorem dX9_applies_176 : decode cX9_applies 176 = .ok (.getfield 62, 3) := by decide +kernel
theorem dX9_applies_179 : decode cX9_applies 179 = .ok (.aload_n 0, 1) := by decide +kernel
theorem dX9_applies_180 : decode cX9_applies 180 = .ok (.getfield 153, 3) := by decide +kernel
theorem dX9_applies_183 : decode cX9_applies 183 = .ok (.iload_n 2, 1) := by decide +kernel
theorem dX9_applies_184 : decode cX9_applies 184 = .ok (.iastore, 1) := by decide +kernel
theorem dX9_applies_185 : decode cX9_applies 185 = .ok (.aload_n 0, 1) := by decide +kernel
theorem dX9_applies_186 : decode cX9_applies 186 = .ok (.getfield 65, 3) := by decide +kernel
theorem dX9_applies_189 : decode cX9_applies 189 = .ok (.aload_n 0, 1) := by decide +kernel
theorem dX9_applies_190 : decode cX9_applies 190 = .ok (.getfield 153, 3) := by decide +kernel
theorem dX9_applies_193 : decode cX9_applies 193 = .ok (.aload_n 0, 1) := by decide +kernel
theorem dX9_applies_194 : decode cX9_applies 194 = .ok (.getfield 53, 3) := by decide +kernel
theorem dX9_applies_197 : decode cX9_applies 197 = .ok (.iload_n 1, 1) := by decide +kernel
theorem dX9_applies_198 : decode cX9_applies 198 = .ok (.iaload, 1) := by decide +kernel
theorem dX9_applies_199 : decode cX9_applies 199 = .ok (.iastore, 1) := by decide +kernel
theorem dX9_applies_200 : decode cX9_applies 200 = .ok (.aload_n 0, 1) := by decide +kernel
theorem dX9_applies_201 : decode cX9_applies 201 = .ok (.dup, 1) := by decide +kernel
theorem dX9_applies_202 : decode cX9_applies 202 = .ok (.getfield 153, 3) := by decide +kernel
theorem dX9_applies_205 : decode cX9_applies 205 = .ok (.iconst 1, 1) := by decide +kernel
theorem dX9_applies_206 : decode cX9_applies 206 = .ok (.iadd, 1) := by decide +kernel
theorem dX9_applies_207 : decode cX9_applies 207 = .ok (.putfield 153, 3) := by decide +kernel
theorem dX9_applies_210 : decode cX9_applies 210 = .ok (.aload_n 0, 1) := by decide +kernel
theorem dX9_applies_211 : decode cX9_applies 211 = .ok (.aload_n 0, 1) := by decide +kernel
theorem dX9_applies_212 : decode cX9_applies 212 = .ok (.getfield 50, 3) := by decide +kernel
theorem dX9_applies_215 : decode cX9_applies 215 = .ok (.iload_n 1, 1) := by decide +kernel
theorem dX9_applies_216 : decode cX9_applies 216 = .ok (.iaload, 1) := by decide +kernel
theorem dX9_applies_217 : decode cX9_applies 217 = .ok (.aload_n 0, 1) := by decide +kernel
theorem dX9_applies_218 : decode cX9_applies 218 = .ok (.getfield 153, 3) := by decide +kernel
theorem dX9_applies_221 : decode cX9_applies 221 = .ok (.iconst 1, 1) := by decide +kernel
theorem dX9_applies_222 : decode cX9_applies 222 = .ok (.isub, 1) := by decide +kernel
theorem dX9_applies_223 : decode cX9_applies 223 = .ok (.invokevirtual 236, 3) := by decide +kernel
theorem dX9_applies_226 : decode cX9_applies 226 = .ok (.goto 52, 3) := by decide +kernel
theorem dX9_applies_229 : decode cX9_applies 229 = .ok (.iload 4, 2) := by decide +kernel
theorem dX9_applies_231 : decode cX9_applies 231 = .ok (.ifCond .ne 20, 3) := by decide +kernel
theorem dX9_applies_234 : decode cX9_applies 234 = .ok (.aload_n 0, 1) := by decide +kernel
theorem dX9_applies_235 : decode cX9_applies 235 = .ok (.iload_n 1, 1) := by decide +kernel
theorem dX9_applies_236 : decode cX9_applies 236 = .ok (.iload_n 2, 1) := by decide +kernel
theorem dX9_applies_237 : decode cX9_applies 237 = .ok (.invokevirtual 240, 3) := by decide +kernel
theorem dX9_applies_240 : decode cX9_applies 240 = .ok (.istore 7, 2) := by decide +kernel
theorem dX9_applies_242 : decode cX9_applies 242 = .ok (.aload_n 0, 1) := by decide +kernel
theorem dX9_applies_243 : decode cX9_applies 243 = .ok (.iload 7, 2) := by decide +kernel
theorem dX9_applies_245 : decode cX9_applies 245 = .ok (.invokevirtual 230, 3) := by decide +kernel
theorem dX9_applies_248 : decode cX9_applies 248 = .ok (.goto 30, 3) := by decide +kernel
theorem dX9_applies_251 : decode cX9_applies 251 = .ok (.iload 5, 2) := by decide +kernel
theorem dX9_applies_253 : decode cX9_applies 253 = .ok (.ifCond .eq 20, 3) := by decide +kernel
theorem dX9_applies_256 : decode cX9_applies 256 = .ok (.aload_n 0, 1) := by decide +kernel
theorem dX9_applies_257 : decode cX9_applies 257 = .ok (.iload_n 1, 1) := by decide +kernel
theorem dX9_applies_258 : decode cX9_applies 258 = .ok (.iload_n 2, 1) := by decide +kernel
theorem dX9_applies_259 : decode cX9_applies 259 = .ok (.invokevirtual 249, 3) := by decide +kernel
theorem dX9_applies_262 : decode cX9_applies 262 = .ok (.istore 7, 2) := by decide +kernel
theorem dX9_applies_264 : decode cX9_applies 264 = .ok (.aload_n 0, 1) := by decide +kernel
theorem dX9_applies_265 : decode cX9_applies 265 = .ok (.iload 7, 2) := by decide +kernel
theorem dX9_applies_267 : decode cX9_applies 267 = .ok (.invokevirtual 230, 3) := by decide +kernel
theorem dX9_applies_270 : decode cX9_applies 270 = .ok (.goto 8, 3) := by decide +kernel
theorem dX9_applies_273 : decode cX9_applies 273 = .ok (.aload_n 0, 1) := by decide +kernel
theorem dX9_applies_274 : decode cX9_applies 274 = .ok (.iconst 4, 1) := by decide +kernel
theorem dX9_applies_275 : decode cX9_applies 275 = .ok (.invokevirtual 224, 3) := by decide +kernel
theorem dX9_applies_278 : decode cX9_applies 278 = .ok (.return_, 1) := by decide +kernel
theorem dX9_back_0 : decode cX9_back 0 = .ok (.aload_n 0, 1) := by decide +kernel
theorem dX9_back_1 : decode cX9_back 1 = .ok (.getfield 221, 3) := by decide +kernel
theorem dX9_back_4 : decode cX9_back 4 = .ok (.istore_n 1, 1) := by decide +kernel
theorem dX9_back_5 : decode cX9_back 5 = .ok (.aload_n 0, 1) := by decide +kernel
theorem dX9_back_6 : decode cX9_back 6 = .ok (.getfield 156, 3) := by decide +kernel
theorem dX9_back_9 : decode cX9_back 9 = .ok (.iconst 1, 1) := by decide +kernel
theorem dX9_back_10 : decode cX9_back 10 = .ok (.isub, 1) := by decide +kernel
theorem dX9_back_11 : decode cX9_back 11 = .ok (.istore_n 2, 1) := by decide +kernel
theorem dX9_back_12 : decode cX9_back 12 = .ok (.aload_n 0, 1) := by decide +kernel
theorem dX9_back_13 : decode cX9_back 13 = .ok (.getfield 156, 3) := by decide +kernel
theorem dX9_back_16 : decode cX9_back 16 = .ok (.ifCond .ne 16, 3) := by decide +kernel
theorem dX9_back_19 : decode cX9_back 19 = .ok (.aload_n 0, 1) := by decide +kernel
theorem dX9_back_20 : decode cX9_back 20 = .ok (.iconst 1, 1) := by decide +kernel
theorem dX9_back_21 : decode cX9_back 21 = .ok (.invokevirtual 224, 3) := by decide +kernel
theorem dX9_back_24 : decode cX9_back 24 = .ok (.aload_n 0, 1) := by decide +kernel
theorem dX9_back_25 : decode cX9_back 25 = .ok (.iload_n 1, 1) := by decide +kernel
theorem dX9_back_26 : decode cX9_back 26 = .ok (.invokevirtual 252, 3) := by decide +kernel
theorem dX9_back_29 : decode cX9_back 29 = .ok (.goto 83, 3) := by decide +kernel
theorem dX9_back_32 : decode cX9_back 32 = .ok (.aload_n 0, 1) := by decide +kernel
theorem dX9_back_33 : decode cX9_back 33 = .ok (.getfield 68, 3) := by decide +kernel
theorem dX9_back_36 : decode cX9_back 36 = .ok (.iload_n 2, 1) := by decide +kernel
theorem dX9_back_37 : decode cX9_back 37 = .ok (.iaload, 1) := by decide +kernel
theorem dX9_back_38 : decode cX9_back 38 = .ok (.ifCond .ne 45, 3) := by decide +kernel
theorem dX9_back_41 : decode cX9_back 41 = .ok (.aload_n 0, 1) := by decide +kernel
theorem dX9_back_42 : decode cX9_back 42 = .ok (.getfield 71, 3) := by decide +kernel
theorem dX9_back_45 : decode cX9_back 45 = .ok (.iload_n 2, 1) := by decide +kernel
theorem dX9_back_46 : decode cX9_back 46 = .ok (.iaload, 1) := by decide +kernel
theorem dX9_back_47 : decode cX9_back 47 = .ok (.istore_n 3, 1) := by decide +kernel
theorem dX9_back_48 : decode cX9_back 48 = .ok (.aload_n 0, 1) := by decide +kernel
theorem dX9_back_49 : decode cX9_back 49 = .ok (.getfield 74, 3) := by decide +kernel
theorem dX9_back_52 : decode cX9_back 52 = .ok (.iload_n 2, 1) := by decide +kernel
theorem dX9_back_53 : decode cX9_back 53 = .ok (.iaload, 1) := by decide +kernel
theorem dX9_back_54 : decode cX9_back 54 = .ok (.istore 4, 2) := by decide +kernel
theorem dX9_back_56 : decode cX9_back 56 = .ok (.aload_n 0, 1) := by decide +kernel
theorem dX9_back_57 : decode cX9_back 57 = .ok (.dup, 1) := by decide +kernel
theorem dX9_back_58 : decode cX9_back 58 = .ok (.getfield 156, 3) := by decide +kernel
theorem dX9_back_61 : decode cX9_back 61 = .ok (.iconst 1, 1) := by decide +kernel
theorem dX9_back_62 : decode cX9_back 62 = .ok (.isub, 1) := by decide +kernel
theorem dX9_back_63 : decode cX9_back 63 = .ok (.putfield 156, 3) := by decide +kernel
theorem dX9_back_66 : decode cX9_back 66 = .ok (.aload_n 0, 1) := by decide +kernel
theorem dX9_back_67 : decode cX9_back 67 = .ok (.iconst 2, 1) := by decide +kernel
theorem dX9_back_68 : decode cX9_back 68 = .ok (.iload_n 1, 1) := by decide +kernel
theorem dX9_back_69 : decode cX9_back 69 = .ok (.iconst 0, 1) := by decide +kernel
theorem dX9_back_70 : decode cX9_back 70 = .ok (.invokevirtual 233, 3) := by decide +kernel
theorem dX9_back_73 : decode cX9_back 73 = .ok (.aload_n 0, 1) := by decide +kernel
theorem dX9_back_74 : decode cX9_back 74 = .ok (.iload_n 3, 1) := by decide +kernel
theorem dX9_back_75 : decode cX9_back 75 = .ok (.iload 4, 2) := by decide +kernel
theorem dX9_back_77 : decode cX9_back 77 = .ok (.invokevirtual 236, 3) := by decide +kernel
theorem dX9_back_80 : decode cX9_back 80 = .ok (.goto 32, 3) := by decide +kernel
theorem dX9_back_83 : decode cX9_back 83 = .ok (.aload_n 0, 1) := by decide +kernel
theorem dX9_back_84 : decode cX9_back 84 = .ok (.getfield 68, 3) := by decide +kernel
theorem dX9_back_87 : decode cX9_back 87 = .ok (.iload_n 2, 1) := by decide +kernel
theorem dX9_back_88 : decode cX9_back 88 = .ok (.iaload, 1) := by decide +kernel
theorem dX9_back_89 : decode cX9_back 89 = .ok (.iconst 1, 1) := by decide +kernel
theorem dX9_back_90 : decode cX9_back 90 = .ok (.if_icmp .ne 11, 3) := by decide +kernel
theorem dX9_back_93 : decode cX9_back 93 = .ok (.aload_n 0, 1) := by decide +kernel
theorem dX9_back_94 : decode cX9_back 94 = .ok (.iload_n 1, 1) := by decide +kernel
theorem dX9_back_95 : decode cX9_back 95 = .ok (.invokevirtual 255, 3) := by decide +kernel
theorem dX9_back_98 : decode cX9_back 98 = .ok (.goto 14, 3) := by decide +kernel
theorem dX9_back_101 : decode cX9_back 101 = .ok (.aload_n 0, 1) := by decide +kernel
theorem dX9_back_102 : decode cX9_back 102 = .ok (.aload_n 0, 1) := by decide +kernel
theorem dX9_back_103 : decode cX9_back 103 = .ok (.getfield 71, 3) := by decide +kernel
theorem dX9_back_106 : decode cX9_back 106 = .ok (.iload_n 2, 1) := by decide +kernel
theorem dX9_back_107 : decode cX9_back 107 = .ok (.iaload, 1) := by decide +kernel
theorem dX9_back_108 : decode cX9_back 108 = .ok (.iload_n 1, 1) := by decide +kernel
theorem dX9_back_109 : decode cX9_back 109 = .ok (.invokevirtual 258, 3) := by decide +kernel
theorem dX9_back_112 : decode cX9_back 112 = .ok (.return_, 1) := by decide +kernel
theorem dX9_cost_0 : decode cX9_cost 0 = .ok (.aload_n 0, 1) := by decide +kernel
theorem dX9_cost_1 : decode cX9_cost 1 = .ok (.getfield 144, 3) := by decide +kernel
theorem dX9_cost_4 : decode cX9_cost 4 = .ok (.iconst 2, 1) := by decide +kernel
theorem dX9_cost_5 : decode cX9_cost 5 = .ok (.if_icmp .ne 25, 3) := by decide +kernel
theorem dX9_cost_8 : decode cX9_cost 8 = .ok (.aload_n 0, 1) := by decide +kernel
theorem dX9_cost_9 : decode cX9_cost 9 = .ok (.getfield 156, 3) := by decide +kernel
theorem dX9_cost_12 : decode cX9_cost 12 = .ok (.ifCond .eq 18, 3) := by decide +kernel
theorem dX9_cost_15 : decode cX9_cost 15 = .ok (.aload_n 0, 1) := by decide +kernel
theorem dX9_cost_16 : decode cX9_cost 16 = .ok (.getfield 68, 3) := by decide +kernel
theorem dX9_cost_19 : decode cX9_cost 19 = .ok (.aload_n 0, 1) := by decide +kernel
theorem dX9_cost_20 : decode cX9_cost 20 = .ok (.getfield 156, 3) := by decide +kernel
theorem dX9_cost_23 : decode cX9_cost 23 = .ok (.iconst 1, 1) := by decide +kernel
theorem dX9_cost_24 : decode cX9_cost 24 = .ok (.isub, 1) := by decide +kernel
theorem dX9_cost_25 : decode cX9_cost 25 = .ok (.iaload, 1) := by decide +kernel
theorem dX9_cost_26 : decode cX9_cost 26 = .ok (.iconst 2, 1) := by decide +kernel
theorem dX9_cost_27 : decode cX9_cost 27 = .ok (.if_icmp .eq 5, 3) := by decide +kernel
theorem dX9_cost_30 : decode cX9_cost 30 = .ok (.iconst 1, 1) := by decide +kernel
theorem dX9_cost_31 : decode cX9_cost 31 = .ok (.ireturn, 1) := by decide +kernel
theorem dX9_cost_32 : decode cX9_cost 32 = .ok (.aload_n 0, 1) := by decide +kernel
theorem dX9_cost_33 : decode cX9_cost 33 = .ok (.getfield 71, 3) := by decide +kernel
theorem dX9_cost_36 : decode cX9_cost 36 = .ok (.aload_n 0, 1) := by decide +kernel
theorem dX9_cost_37 : decode cX9_cost 37 = .ok (.getfield 156, 3) := by decide +kernel
theorem dX9_cost_40 : decode cX9_cost 40 = .ok (.iconst 1, 1) := by decide +kernel
theorem dX9_cost_41 : decode cX9_cost 41 = .ok (.isub, 1) := by decide +kernel
theorem dX9_cost_42 : decode cX9_cost 42 = .ok (.iaload, 1) := by decide +kernel
theorem dX9_cost_43 : decode cX9_cost 43 = .ok (.istore_n 1, 1) := by decide +kernel
theorem dX9_cost_44 : decode cX9_cost 44 = .ok (.aload_n 0, 1) := by decide +kernel
theorem dX9_cost_45 : decode cX9_cost 45 = .ok (.iload_n 1, 1) := by decide +kernel
theorem dX9_cost_46 : decode cX9_cost 46 = .ok (.invokevirtual 243, 3) := by decide +kernel
theorem dX9_cost_49 : decode cX9_cost 49 = .ok (.ifCond .eq 27, 3) := by decide +kernel
theorem dX9_cost_52 : decode cX9_cost 52 = .ok (.aload_n 0, 1) := by decide +kernel
theorem dX9_cost_53 : decode cX9_cost 53 = .ok (.getfield 56, 3) := by decide +kernel
theorem dX9_cost_56 : decode cX9_cost 56 = .ok (.iload_n 1, 1) := by decide +kernel
theorem dX9_cost_57 : decode cX9_cost 57 = .ok (.iaload, 1) := by decide +kernel
theorem dX9_cost_58 : decode cX9_cost 58 = .ok (.iconst 1, 1) := by decide +kernel
theorem dX9_cost_59 : decode cX9_cost 59 = .ok (.iadd, 1) := by decide +kernel
theorem dX9_cost_60 : decode cX9_cost 60 = .ok (.aload_n 0, 1) := by decide +kernel
theorem dX9_cost_61 : decode cX9_cost 61 = .ok (.getfield 50, 3) := by decide +kernel
theorem dX9_cost_64 : decode cX9_cost 64 = .ok (.iload_n 1, 1) := by decide +kernel
theorem dX9_cost_65 : decode cX9_cost 65 = .ok (.iaload, 1) := by decide +kernel
theorem dX9_cost_66 : decode cX9_cost 66 = .ok (.invokestatic 192, 3) := by decide +kernel
theorem dX9_cost_69 : decode cX9_cost 69 = .ok (.if_icmp .ne 7, 3) := by decide +kernel
theorem dX9_cost_72 : decode cX9_cost 72 = .ok (.iconst 1, 1) := by decide +kernel
theorem dX9_cost_73 : decode cX9_cost 73 = .ok (.goto 4, 3) := by decide +kernel
theorem dX9_cost_76 : decode cX9_cost 76 = .ok (.iconst 0, 1) := by decide +kernel
theorem dX9_cost_77 : decode cX9_cost 77 = .ok (.istore_n 2, 1) := by decide +kernel
theorem dX9_cost_78 : decode cX9_cost 78 = .ok (.iload_n 2, 1) := by decide +kernel
theorem dX9_cost_79 : decode cX9_cost 79 = .ok (.ifCond .eq 17, 3) := by decide +kernel
theorem dX9_cost_82 : decode cX9_cost 82 = .ok (.iconst 1, 1) := by decide +kernel
theorem dX9_cost_83 : decode cX9_cost 83 = .ok (.aload_n 0, 1) := by decide +kernel
theorem dX9_cost_84 : decode cX9_cost 84 = .ok (.iload_n 1, 1) := by decide +kernel
theorem dX9_cost_85 : decode cX9_cost 85 = .ok (.aload_n 0, 1) := by decide +kernel
theorem dX9_cost_86 : decode cX9_cost 86 = .ok (.getfield 221, 3) := by decide +kernel
theorem dX9_cost_89 : decode cX9_cost 89 = .ok (.invokevirtual 261, 3) := by decide +kernel
theorem dX9_cost_92 : decode cX9_cost 92 = .ok (.iadd, 1) := by decide +kernel
theorem dX9_cost_93 : decode cX9_cost 93 = .ok (.goto 4, 3) := by decide +kernel
theorem dX9_cost_96 : decode cX9_cost 96 = .ok (.iconst 1, 1) := by decide +kernel
theorem dX9_cost_97 : decode cX9_cost 97 = .ok (.ireturn, 1) := by decide +kernel
theorem dX9_step_0 : decode cX9_step 0 = .ok (.aload_n 0, 1) := by decide +kernel
theorem dX9_step_1 : decode cX9_step 1 = .ok (.invokevirtual 264, 3) := by decide +kernel
theorem dX9_step_4 : decode cX9_step 4 = .ok (.istore_n 1, 1) := by decide +kernel
theorem dX9_step_5 : decode cX9_step 5 = .ok (.aload_n 0, 1) := by decide +kernel
theorem dX9_step_6 : decode cX9_step 6 = .ok (.dup, 1) := by decide +kernel
theorem dX9_step_7 : decode cX9_step 7 = .ok (.getfield 159, 3) := by decide +kernel
theorem dX9_step_10 : decode cX9_step 10 = .ok (.iconst 1, 1) := by decide +kernel
theorem dX9_step_11 : decode cX9_step 11 = .ok (.iadd, 1) := by decide +kernel
theorem dX9_step_12 : decode cX9_step 12 = .ok (.putfield 159, 3) := by decide +kernel
theorem dX9_step_15 : decode cX9_step 15 = .ok (.aload_n 0, 1) := by decide +kernel
theorem dX9_step_16 : decode cX9_step 16 = .ok (.getfield 162, 3) := by decide +kernel
theorem dX9_step_19 : decode cX9_step 19 = .ok (.iload_n 1, 1) := by decide +kernel
theorem dX9_step_20 : decode cX9_step 20 = .ok (.iadd, 1) := by decide +kernel
theorem dX9_step_21 : decode cX9_step 21 = .ok (.aload_n 0, 1) := by decide +kernel
theorem dX9_step_22 : decode cX9_step 22 = .ok (.getfield 172, 3) := by decide +kernel
theorem dX9_step_25 : decode cX9_step 25 = .ok (.if_icmp .le 9, 3) := by decide +kernel
theorem dX9_step_28 : decode cX9_step 28 = .ok (.aload_n 0, 1) := by decide +kernel
theorem dX9_step_29 : decode cX9_step 29 = .ok (.iconst 5, 1) := by decide +kernel
theorem dX9_step_30 : decode cX9_step 30 = .ok (.invokevirtual 224, 3) := by decide +kernel
theorem dX9_step_33 : decode cX9_step 33 = .ok (.return_, 1) := by decide +kernel
theorem dX9_step_34 : decode cX9_step 34 = .ok (.aload_n 0, 1) := by decide +kernel
theorem dX9_step_35 : decode cX9_step 35 = .ok (.dup, 1) := by decide +kernel
theorem dX9_step_36 : decode cX9_step 36 = .ok (.getfield 162, 3) := by decide +kernel
theorem dX9_step_39 : decode cX9_step 39 = .ok (.iload_n 1, 1) := by decide +kernel
theorem dX9_step_40 : decode cX9_step 40 = .ok (.iadd, 1) := by decide +kernel
theorem dX9_step_41 : decode cX9_step 41 = .ok (.putfield 162, 3) := by decide +kernel
theorem dX9_step_44 : decode cX9_step 44 = .ok (.aload_n 0, 1) := by decide +kernel
theorem dX9_step_45 : decode cX9_step 45 = .ok (.getfield 144, 3) := by decide +kernel
theorem dX9_step_48 : decode cX9_step 48 = .ok (.iconst 1, 1) := by decide +kernel
theorem dX9_step_49 : decode cX9_step 49 = .ok (.if_icmp .ne 10, 3) := by decide +kernel
theorem dX9_step_52 : decode cX9_step 52 = .ok (.aload_n 0, 1) := by decide +kernel
theorem dX9_step_53 : decode cX9_step 53 = .ok (.invokevirtual 267, 3) := by decide +kernel
theorem dX9_step_56 : decode cX9_step 56 = .ok (.goto 7, 3) := by decide +kernel
theorem dX9_step_59 : decode cX9_step 59 = .ok (.aload_n 0, 1) := by decide +kernel
theorem dX9_step_60 : decode cX9_step 60 = .ok (.invokevirtual 270, 3) := by decide +kernel
theorem dX9_step_63 : decode cX9_step 63 = .ok (.return_, 1) := by decide +kernel
theorem dX9_run_0 : decode cX9_run 0 = .ok (.aload_n 0, 1) := by decide +kernel
theorem dX9_run_1 : decode cX9_run 1 = .ok (.iload_n 1, 1) := by decide +kernel
theorem dX9_run_2 : decode cX9_run 2 = .ok (.iconst 1, 1) := by decide +kernel
theorem dX9_run_3 : decode cX9_run 3 = .ok (.if_icmp .lt 9, 3) := by decide +kernel
theorem dX9_run_6 : decode cX9_run 6 = .ok (.iload_n 1, 1) := by decide +kernel
theorem dX9_run_7 : decode cX9_run 7 = .ok (.bipush 100, 2) := by decide +kernel
theorem dX9_run_9 : decode cX9_run 9 = .ok (.if_icmp .le 7, 3) := by decide +kernel
theorem dX9_run_12 : decode cX9_run 12 = .ok (.iconst 1, 1) := by decide +kernel
theorem dX9_run_13 : decode cX9_run 13 = .ok (.goto 15, 3) := by decide +kernel
theorem dX9_run_16 : decode cX9_run 16 = .ok (.aload_n 0, 1) := by decide +kernel
theorem dX9_run_17 : decode cX9_run 17 = .ok (.getfield 144, 3) := by decide +kernel
theorem dX9_run_20 : decode cX9_run 20 = .ok (.ifCond .ne 7, 3) := by decide +kernel
theorem dX9_run_23 : decode cX9_run 23 = .ok (.iconst 2, 1) := by decide +kernel
theorem dX9_run_24 : decode cX9_run 24 = .ok (.goto 4, 3) := by decide +kernel
theorem dX9_run_27 : decode cX9_run 27 = .ok (.iconst 0, 1) := by decide +kernel
theorem dX9_run_28 : decode cX9_run 28 = .ok (.putfield 89, 3) := by decide +kernel
theorem dX9_run_31 : decode cX9_run 31 = .ok (.iconst 0, 1) := by decide +kernel
theorem dX9_run_32 : decode cX9_run 32 = .ok (.istore_n 2, 1) := by decide +kernel
theorem dX9_run_33 : decode cX9_run 33 = .ok (.aload_n 0, 1) := by decide +kernel
theorem dX9_run_34 : decode cX9_run 34 = .ok (.getfield 89, 3) := by decide +kernel
theorem dX9_run_37 : decode cX9_run 37 = .ok (.ifCond .ne 27, 3) := by decide +kernel
theorem dX9_run_40 : decode cX9_run 40 = .ok (.iload_n 2, 1) := by decide +kernel
theorem dX9_run_41 : decode cX9_run 41 = .ok (.iload_n 1, 1) := by decide +kernel
theorem dX9_run_42 : decode cX9_run 42 = .ok (.if_icmp .ge 22, 3) := by decide +kernel
theorem dX9_run_45 : decode cX9_run 45 = .ok (.aload_n 0, 1) := by decide +kernel
theorem dX9_run_46 : decode cX9_run 46 = .ok (.getfield 144, 3) := by decide +kernel
theorem dX9_run_49 : decode cX9_run 49 = .ok (.bipush 10, 2) := by decide +kernel
theorem dX9_run_51 : decode cX9_run 51 = .ok (.if_icmp .ge 13, 3) := by decide +kernel
theorem dX9_run_54 : decode cX9_run 54 = .ok (.aload_n 0, 1) := by decide +kernel
theorem dX9_run_55 : decode cX9_run 55 = .ok (.invokevirtual 273, 3) := by decide +kernel
theorem dX9_run_58 : decode cX9_run 58 = .ok (.iinc 2 1, 3) := by decide +kernel
theorem dX9_run_61 : decode cX9_run 61 = .ok (.goto (-28), 3) := by decide +kernel
theorem dX9_run_64 : decode cX9_run 64 = .ok (.iload_n 2, 1) := by decide +kernel
theorem dX9_run_65 : decode cX9_run 65 = .ok (.ireturn, 1) := by decide +kernel
theorem dX9_say_0 : decode cX9_say 0 = .ok (.aload_n 0, 1) := by decide +kernel
theorem dX9_say_1 : decode cX9_say 1 = .ok (.getfield 168, 3) := by decide +kernel
theorem dX9_say_4 : decode cX9_say 4 = .ok (.sipush 400, 3) := by decide +kernel
theorem dX9_say_7 : decode cX9_say 7 = .ok (.if_icmp .ge 23, 3) := by decide +kernel
theorem dX9_say_10 : decode cX9_say 10 = .ok (.aload_n 0, 1) := by decide +kernel
theorem dX9_say_11 : decode cX9_say 11 = .ok (.getfield 77, 3) := by decide +kernel
theorem dX9_say_14 : decode cX9_say 14 = .ok (.aload_n 0, 1) := by decide +kernel
theorem dX9_say_15 : decode cX9_say 15 = .ok (.getfield 168, 3) := by decide +kernel
theorem dX9_say_18 : decode cX9_say 18 = .ok (.iload_n 1, 1) := by decide +kernel
theorem dX9_say_19 : decode cX9_say 19 = .ok (.iastore, 1) := by decide +kernel
theorem dX9_say_20 : decode cX9_say 20 = .ok (.aload_n 0, 1) := by decide +kernel
theorem dX9_say_21 : decode cX9_say 21 = .ok (.dup, 1) := by decide +kernel
theorem dX9_say_22 : decode cX9_say 22 = .ok (.getfield 168, 3) := by decide +kernel
theorem dX9_say_25 : decode cX9_say 25 = .ok (.iconst 1, 1) := by decide +kernel
theorem dX9_say_26 : decode cX9_say 26 = .ok (.iadd, 1) := by decide +kernel
theorem dX9_say_27 : decode cX9_say 27 = .ok (.putfield 168, 3) := by decide +kernel
theorem dX9_say_30 : decode cX9_say 30 = .ok (.return_, 1) := by decide +kernel
theorem dX9_ask_0 : decode cX9_ask 0 = .ok (.aload_n 0, 1) := by decide +kernel
theorem dX9_ask_1 : decode cX9_ask 1 = .ok (.getfield 80, 3) := by decide +kernel
theorem dX9_ask_4 : decode cX9_ask 4 = .ok (.aload_n 0, 1) := by decide +kernel
theorem dX9_ask_5 : decode cX9_ask 5 = .ok (.getfield 122, 3) := by decide +kernel
theorem dX9_ask_8 : decode cX9_ask 8 = .ok (.iconst 2, 1) := by decide +kernel
theorem dX9_ask_9 : decode cX9_ask 9 = .ok (.iload_n 2, 1) := by decide +kernel
theorem dX9_ask_10 : decode cX9_ask 10 = .ok (.imul, 1) := by decide +kernel
theorem dX9_ask_11 : decode cX9_ask 11 = .ok (.iload_n 1, 1) := by decide +kernel
theorem dX9_ask_12 : decode cX9_ask 12 = .ok (.iadd, 1) := by decide +kernel
theorem dX9_ask_13 : decode cX9_ask 13 = .ok (.iastore, 1) := by decide +kernel
theorem dX9_ask_14 : decode cX9_ask 14 = .ok (.aload_n 0, 1) := by decide +kernel
theorem dX9_ask_15 : decode cX9_ask 15 = .ok (.getfield 83, 3) := by decide +kernel
theorem dX9_ask_18 : decode cX9_ask 18 = .ok (.aload_n 0, 1) := by decide +kernel
theorem dX9_ask_19 : decode cX9_ask 19 = .ok (.getfield 122, 3) := by decide +kernel
theorem dX9_ask_22 : decode cX9_ask 22 = .ok (.iload_n 3, 1) := by decide +kernel
theorem dX9_ask_23 : decode cX9_ask 23 = .ok (.iastore, 1) := by decide +kernel
theorem dX9_ask_24 : decode cX9_ask 24 = .ok (.aload_n 0, 1) := by decide +kernel
theorem dX9_ask_25 : decode cX9_ask 25 = .ok (.getfield 86, 3) := by decide +kernel
theorem dX9_ask_28 : decode cX9_ask 28 = .ok (.aload_n 0, 1) := by decide +kernel
theorem dX9_ask_29 : decode cX9_ask 29 = .ok (.getfield 122, 3) := by decide +kernel
theorem dX9_ask_32 : decode cX9_ask 32 = .ok (.iload 4, 2) := by decide +kernel
theorem dX9_ask_34 : decode cX9_ask 34 = .ok (.iastore, 1) := by decide +kernel
theorem dX9_ask_35 : decode cX9_ask 35 = .ok (.aload_n 0, 1) := by decide +kernel
theorem dX9_ask_36 : decode cX9_ask 36 = .ok (.dup, 1) := by decide +kernel
theorem dX9_ask_37 : decode cX9_ask 37 = .ok (.getfield 122, 3) := by decide +kernel
theorem dX9_ask_40 : decode cX9_ask 40 = .ok (.iconst 1, 1) := by decide +kernel
theorem dX9_ask_41 : decode cX9_ask 41 = .ok (.iadd, 1) := by decide +kernel
theorem dX9_ask_42 : decode cX9_ask 42 = .ok (.putfield 122, 3) := by decide +kernel
theorem dX9_ask_45 : decode cX9_ask 45 = .ok (.return_, 1) := by decide +kernel
theorem dX9_sayConstant_0 : decode cX9_sayConstant 0 = .ok (.aload_n 0, 1) := by decide +kernel
theorem dX9_sayConstant_1 : decode cX9_sayConstant 1 = .ok (.iconst 4, 1) := by decide +kernel
theorem dX9_sayConstant_2 : decode cX9_sayConstant 2 = .ok (.invokevirtual 276, 3) := by decide +kernel
theorem dX9_sayConstant_5 : decode cX9_sayConstant 5 = .ok (.aload_n 0, 1) := by decide +kernel
theorem dX9_sayConstant_6 : decode cX9_sayConstant 6 = .ok (.iload_n 1, 1) := by decide +kernel
theorem dX9_sayConstant_7 : decode cX9_sayConstant 7 = .ok (.invokevirtual 276, 3) := by decide +kernel
theorem dX9_sayConstant_10 : decode cX9_sayConstant 10 = .ok (.iload_n 1, 1) := by decide +kernel
theorem dX9_sayConstant_11 : decode cX9_sayConstant 11 = .ok (.iconst 2, 1) := by decide +kernel
theorem dX9_sayConstant_12 : decode cX9_sayConstant 12 = .ok (.if_icmp .eq 8, 3) := by decide +kernel
theorem dX9_sayConstant_15 : decode cX9_sayConstant 15 = .ok (.aload_n 0, 1) := by decide +kernel
theorem dX9_sayConstant_16 : decode cX9_sayConstant 16 = .ok (.iload_n 2, 1) := by decide +kernel
theorem dX9_sayConstant_17 : decode cX9_sayConstant 17 = .ok (.invokevirtual 276, 3) := by decide +kernel
theorem dX9_sayConstant_20 : decode cX9_sayConstant 20 = .ok (.iconst 0, 1) := by decide +kernel
theorem dX9_sayConstant_21 : decode cX9_sayConstant 21 = .ok (.istore 5, 2) := by decide +kernel
theorem dX9_sayConstant_23 : decode cX9_sayConstant 23 = .ok (.iload 5, 2) := by decide +kernel
theorem dX9_sayConstant_25 : decode cX9_sayConstant 25 = .ok (.iload_n 2, 1) := by decide +kernel
theorem dX9_sayConstant_26 : decode cX9_sayConstant 26 = .ok (.if_icmp .ge 30, 3) := by decide +kernel
theorem dX9_sayConstant_29 : decode cX9_sayConstant 29 = .ok (.iload_n 1, 1) := by decide +kernel
theorem dX9_sayConstant_30 : decode cX9_sayConstant 30 = .ok (.iconst 3, 1) := by decide +kernel
theorem dX9_sayConstant_31 : decode cX9_sayConstant 31 = .ok (.if_icmp .ne 25, 3) := by decide +kernel
theorem dX9_sayConstant_34 : decode cX9_sayConstant 34 = .ok (.aload_n 0, 1) := by decide +kernel
theorem dX9_sayConstant_35 : decode cX9_sayConstant 35 = .ok (.lload_n 3, 1) := by decide +kernel
theorem dX9_sayConstant_36 : decode cX9_sayConstant 36 = .ok (.bipush 8, 2) := by decide +kernel
theorem dX9_sayConstant_38 : decode cX9_sayConstant 38 = .ok (.iload 5, 2) := by decide +kernel
theorem dX9_sayConstant_40 : decode cX9_sayConstant 40 = .ok (.imul, 1) := by decide +kernel
theorem dX9_sayConstant_41 : decode cX9_sayConstant 41 = .ok (.lshr, 1) := by decide +kernel
theorem dX9_sayConstant_42 : decode cX9_sayConstant 42 = .ok (.ldc2_w 219, 3) := by decide +kernel
theorem dX9_sayConstant_45 : decode cX9_sayConstant 45 = .ok (.land, 1) := by decide +kernel
theorem dX9_sayConstant_46 : decode cX9_sayConstant 46 = .ok (.l2i, 1) := by decide +kernel
theorem dX9_sayConstant_47 : decode cX9_sayConstant 47 = .ok (.invokevirtual 276, 3) := by decide +kernel
theorem dX9_sayConstant_50 : decode cX9_sayConstant 50 = .ok (.iinc 5 1, 3) := by decide +kernel
theorem dX9_sayConstant_53 : decode cX9_sayConstant 53 = .ok (.goto (-30), 3) := by decide +kernel
theorem dX9_sayConstant_56 : decode cX9_sayConstant 56 = .ok (.return_, 1) := by decide +kernel
theorem dX9_sayValue_0 : decode cX9_sayValue 0 = .ok (.aload_n 0, 1) := by decide +kernel
theorem dX9_sayValue_1 : decode cX9_sayValue 1 = .ok (.getfield 41, 3) := by decide +kernel
theorem dX9_sayValue_4 : decode cX9_sayValue 4 = .ok (.iload_n 1, 1) := by decide +kernel
theorem dX9_sayValue_5 : decode cX9_sayValue 5 = .ok (.iaload, 1) := by decide +kernel
theorem dX9_sayValue_6 : decode cX9_sayValue 6 = .ok (.istore_n 2, 1) := by decide +kernel
theorem dX9_sayValue_7 : decode cX9_sayValue 7 = .ok (.iload_n 2, 1) := by decide +kernel
theorem dX9_sayValue_8 : decode cX9_sayValue 8 = .ok (.iconst 4, 1) := by decide +kernel
theorem dX9_sayValue_9 : decode cX9_sayValue 9 = .ok (.if_icmp .ge 23, 3) := by decide +kernel
theorem dX9_sayValue_12 : decode cX9_sayValue 12 = .ok (.aload_n 0, 1) := by decide +kernel
theorem dX9_sayValue_13 : decode cX9_sayValue 13 = .ok (.iload_n 2, 1) := by decide +kernel
theorem dX9_sayValue_14 : decode cX9_sayValue 14 = .ok (.aload_n 0, 1) := by decide +kernel
theorem dX9_sayValue_15 : decode cX9_sayValue 15 = .ok (.getfield 44, 3) := by decide +kernel
theorem dX9_sayValue_18 : decode cX9_sayValue 18 = .ok (.iload_n 1, 1) := by decide +kernel
theorem dX9_sayValue_19 : decode cX9_sayValue 19 = .ok (.iaload, 1) := by decide +kernel
theorem dX9_sayValue_20 : decode cX9_sayValue 20 = .ok (.aload_n 0, 1) := by decide +kernel
theorem dX9_sayValue_21 : decode cX9_sayValue 21 = .ok (.getfield 47, 3) := by decide +kernel
theorem dX9_sayValue_24 : decode cX9_sayValue 24 = .ok (.iload_n 1, 1) := by decide +kernel
theorem dX9_sayValue_25 : decode cX9_sayValue 25 = .ok (.laload, 1) := by decide +kernel
theorem dX9_sayValue_26 : decode cX9_sayValue 26 = .ok (.invokevirtual 279, 3) := by decide +kernel
theorem dX9_sayValue_29 : decode cX9_sayValue 29 = .ok (.goto 151, 3) := by decide +kernel
theorem dX9_sayValue_32 : decode cX9_sayValue 32 = .ok (.iload_n 2, 1) := by decide +kernel
theorem dX9_sayValue_33 : decode cX9_sayValue 33 = .ok (.bipush 6, 2) := by decide +kernel
theorem dX9_sayValue_35 : decode cX9_sayValue 35 = .ok (.if_icmp .ge 47, 3) := by decide +kernel
theorem dX9_sayValue_38 : decode cX9_sayValue 38 = .ok (.aload_n 0, 1) := by decide +kernel
theorem dX9_sayValue_39 : decode cX9_sayValue 39 = .ok (.iload_n 2, 1) := by decide +kernel
theorem dX9_sayValue_40 : decode cX9_sayValue 40 = .ok (.iconst 4, 1) := by decide +kernel
theorem dX9_sayValue_41 : decode cX9_sayValue 41 = .ok (.if_icmp .ne 7, 3) := by decide +kernel
theorem dX9_sayValue_44 : decode cX9_sayValue 44 = .ok (.iconst 1, 1) := by decide +kernel
theorem dX9_sayValue_45 : decode cX9_sayValue 45 = .ok (.goto 4, 3) := by decide +kernel
theorem dX9_sayValue_48 : decode cX9_sayValue 48 = .ok (.iconst 2, 1) := by decide +kernel
theorem dX9_sayValue_49 : decode cX9_sayValue 49 = .ok (.invokevirtual 276, 3) := by decide +kernel
theorem dX9_sayValue_52 : decode cX9_sayValue 52 = .ok (.aload_n 0, 1) := by decide +kernel
theorem dX9_sayValue_53 : decode cX9_sayValue 53 = .ok (.iconst 1, 1) := by decide +kernel
theorem dX9_sayValue_54 : decode cX9_sayValue 54 = .ok (.aload_n 0, 1) := by decide +kernel
theorem dX9_sayValue_55 : decode cX9_sayValue 55 = .ok (.getfield 50, 3) := by decide +kernel
theorem dX9_sayValue_58 : decode cX9_sayValue 58 = .ok (.iload_n 1, 1) := by decide +kernel
theorem dX9_sayValue_59 : decode cX9_sayValue 59 = .ok (.iaload, 1) := by decide +kernel
theorem dX9_sayValue_60 : decode cX9_sayValue 60 = .ok (.aload_n 0, 1) := by decide +kernel
theorem dX9_sayValue_61 : decode cX9_sayValue 61 = .ok (.getfield 53, 3) := by decide +kernel
theorem dX9_sayValue_64 : decode cX9_sayValue 64 = .ok (.iload_n 1, 1) := by decide +kernel
theorem dX9_sayValue_65 : decode cX9_sayValue 65 = .ok (.iaload, 1) := by decide +kernel
theorem dX9_sayValue_66 : decode cX9_sayValue 66 = .ok (.iload_n 2, 1) := by decide +kernel
theorem dX9_sayValue_67 : decode cX9_sayValue 67 = .ok (.iconst 4, 1) := by decide +kernel
theorem dX9_sayValue_68 : decode cX9_sayValue 68 = .ok (.if_icmp .ne 7, 3) := by decide +kernel
theorem dX9_sayValue_71 : decode cX9_sayValue 71 = .ok (.iconst 0, 1) := by decide +kernel
theorem dX9_sayValue_72 : decode cX9_sayValue 72 = .ok (.goto 4, 3) := by decide +kernel
theorem dX9_sayValue_75 : decode cX9_sayValue 75 = .ok (.iconst 1, 1) := by decide +kernel
theorem dX9_sayValue_76 : decode cX9_sayValue 76 = .ok (.invokevirtual 283, 3) := by decide +kernel
theorem dX9_sayValue_79 : decode cX9_sayValue 79 = .ok (.goto 101, 3) := by decide +kernel
theorem dX9_sayValue_82 : decode cX9_sayValue 82 = .ok (.iconst 0, 1) := by decide +kernel
theorem dX9_sayValue_83 : decode cX9_sayValue 83 = .ok (.istore_n 3, 1) := by decide +kernel
theorem dX9_sayValue_84 : decode cX9_sayValue 84 = .ok (.iload_n 3, 1) := by decide +kernel
theorem dX9_sayValue_85 : decode cX9_sayValue 85 = .ok (.aload_n 0, 1) := by decide +kernel
theorem dX9_sayValue_86 : decode cX9_sayValue 86 = .ok (.getfield 56, 3) := by decide +kernel
theorem dX9_sayValue_89 : decode cX9_sayValue 89 = .ok (.iload_n 1, 1) := by decide +kernel
theorem dX9_sayValue_90 : decode cX9_sayValue 90 = .ok (.iaload, 1) := by decide +kernel
theorem dX9_sayValue_91 : decode cX9_sayValue 91 = .ok (.if_icmp .ge 14, 3) := by decide +kernel
theorem dX9_sayValue_94 : decode cX9_sayValue 94 = .ok (.aload_n 0, 1) := by decide +kernel
theorem dX9_sayValue_95 : decode cX9_sayValue 95 = .ok (.iconst 3, 1) := by decide +kernel
theorem dX9_sayValue_96 : decode cX9_sayValue 96 = .ok (.invokevirtual 276, 3) := by decide +kernel
theorem dX9_sayValue_99 : decode cX9_sayValue 99 = .ok (.iinc 3 1, 3) := by decide +kernel
theorem dX9_sayValue_102 : decode cX9_sayValue 102 = .ok (.goto (-18), 3) := by decide +kernel
theorem dX9_sayValue_105 : decode cX9_sayValue 105 = .ok (.iconst 0, 1) := by decide +kernel
theorem dX9_sayValue_106 : decode cX9_sayValue 106 = .ok (.istore_n 3, 1) := by decide +kernel
theorem dX9_sayValue_107 : decode cX9_sayValue 107 = .ok (.iload_n 3, 1) := by decide +kernel
theorem dX9_sayValue_108 : decode cX9_sayValue 108 = .ok (.aload_n 0, 1) := by decide +kernel
theorem dX9_sayValue_109 : decode cX9_sayValue 109 = .ok (.getfield 53, 3) := by decide +kernel
theorem dX9_sayValue_112 : decode cX9_sayValue 112 = .ok (.iload_n 1, 1) := by decide +kernel
theorem dX9_sayValue_113 : decode cX9_sayValue 113 = .ok (.iaload, 1) := by decide +kernel
theorem dX9_sayValue_114 : decode cX9_sayValue 114 = .ok (.if_icmp .ge 14, 3) := by decide +kernel
theorem dX9_sayValue_117 : decode cX9_sayValue 117 = .ok (.aload_n 0, 1) := by decide +kernel
theorem dX9_sayValue_118 : decode cX9_sayValue 118 = .ok (.iconst 5, 1) := by decide +kernel
theorem dX9_sayValue_119 : decode cX9_sayValue 119 = .ok (.invokevirtual 276, 3) := by decide +kernel
theorem dX9_sayValue_122 : decode cX9_sayValue 122 = .ok (.iinc 3 1, 3) := by decide +kernel
theorem dX9_sayValue_125 : decode cX9_sayValue 125 = .ok (.goto (-18), 3) := by decide +kernel
theorem dX9_sayValue_128 : decode cX9_sayValue 128 = .ok (.aload_n 0, 1) := by decide +kernel
theorem dX9_sayValue_129 : decode cX9_sayValue 129 = .ok (.bipush 7, 2) := by decide +kernel
theorem dX9_sayValue_131 : decode cX9_sayValue 131 = .ok (.invokevirtual 276, 3) := by decide +kernel
theorem dX9_sayValue_134 : decode cX9_sayValue 134 = .ok (.aload_n 0, 1) := by decide +kernel
theorem dX9_sayValue_135 : decode cX9_sayValue 135 = .ok (.aload_n 0, 1) := by decide +kernel
theorem dX9_sayValue_136 : decode cX9_sayValue 136 = .ok (.getfield 50, 3) := by decide +kernel
theorem dX9_sayValue_139 : decode cX9_sayValue 139 = .ok (.iload_n 1, 1) := by decide +kernel
theorem dX9_sayValue_140 : decode cX9_sayValue 140 = .ok (.iaload, 1) := by decide +kernel
theorem dX9_sayValue_141 : decode cX9_sayValue 141 = .ok (.invokevirtual 276, 3) := by decide +kernel
theorem dX9_sayValue_144 : decode cX9_sayValue 144 = .ok (.aload_n 0, 1) := by decide +kernel
theorem dX9_sayValue_145 : decode cX9_sayValue 145 = .ok (.getfield 56, 3) := by decide +kernel
theorem dX9_sayValue_148 : decode cX9_sayValue 148 = .ok (.iload_n 1, 1) := by decide +kernel
theorem dX9_sayValue_149 : decode cX9_sayValue 149 = .ok (.iaload, 1) := by decide +kernel
theorem dX9_sayValue_150 : decode cX9_sayValue 150 = .ok (.iconst 1, 1) := by decide +kernel
theorem dX9_sayValue_151 : decode cX9_sayValue 151 = .ok (.isub, 1) := by decide +kernel
theorem dX9_sayValue_152 : decode cX9_sayValue 152 = .ok (.istore_n 3, 1) := by decide +kernel
theorem dX9_sayValue_153 : decode cX9_sayValue 153 = .ok (.iload_n 3, 1) := by decide +kernel
theorem dX9_sayValue_154 : decode cX9_sayValue 154 = .ok (.ifCond .lt 26, 3) := by decide +kernel
theorem dX9_sayValue_157 : decode cX9_sayValue 157 = .ok (.aload_n 0, 1) := by decide +kernel
theorem dX9_sayValue_158 : decode cX9_sayValue 158 = .ok (.iconst 0, 1) := by decide +kernel
theorem dX9_sayValue_159 : decode cX9_sayValue 159 = .ok (.aload_n 0, 1) := by decide +kernel
theorem dX9_sayValue_160 : decode cX9_sayValue 160 = .ok (.getfield 59, 3) := by decide +kernel
theorem dX9_sayValue_163 : decode cX9_sayValue 163 = .ok (.iconst 3, 1) := by decide +kernel
theorem dX9_sayValue_164 : decode cX9_sayValue 164 = .ok (.iload_n 1, 1) := by decide +kernel
theorem dX9_sayValue_165 : decode cX9_sayValue 165 = .ok (.imul, 1) := by decide +kernel
theorem dX9_sayValue_166 : decode cX9_sayValue 166 = .ok (.iload_n 3, 1) := by decide +kernel
theorem dX9_sayValue_167 : decode cX9_sayValue 167 = .ok (.iadd, 1) := by decide +kernel
theorem dX9_sayValue_168 : decode cX9_sayValue 168 = .ok (.iaload, 1) := by decide +kernel
theorem dX9_sayValue_169 : decode cX9_sayValue 169 = .ok (.iconst (-1), 1) := by decide +kernel
theorem dX9_sayValue_170 : decode cX9_sayValue 170 = .ok (.iconst 0, 1) := by decide +kernel
theorem dX9_sayValue_171 : decode cX9_sayValue 171 = .ok (.invokevirtual 283, 3) := by decide +kernel
theorem dX9_sayValue_174 : decode cX9_sayValue 174 = .ok (.iinc 3 (-1), 3) := by decide +kernel
theorem dX9_sayValue_177 : decode cX9_sayValue 177 = .ok (.goto (-24), 3) := by decide +kernel
theorem dX9_sayValue_180 : decode cX9_sayValue 180 = .ok (.return_, 1) := by decide +kernel
theorem dX9_sayTerm_0 : decode cX9_sayTerm 0 = .ok (.aload_n 0, 1) := by decide +kernel
theorem dX9_sayTerm_1 : decode cX9_sayTerm 1 = .ok (.getfield 13, 3) := by decide +kernel
theorem dX9_sayTerm_4 : decode cX9_sayTerm 4 = .ok (.iload_n 1, 1) := by decide +kernel
theorem dX9_sayTerm_5 : decode cX9_sayTerm 5 = .ok (.iaload, 1) := by decide +kernel
theorem dX9_sayTerm_6 : decode cX9_sayTerm 6 = .ok (.istore 4, 2) := by decide +kernel
theorem dX9_sayTerm_8 : decode cX9_sayTerm 8 = .ok (.iload 4, 2) := by decide +kernel
theorem dX9_sayTerm_10 : decode cX9_sayTerm 10 = .ok (.ifCond .ne 62, 3) := by decide +kernel
theorem dX9_sayTerm_13 : decode cX9_sayTerm 13 = .ok (.aload_n 0, 1) := by decide +kernel
theorem dX9_sayTerm_14 : decode cX9_sayTerm 14 = .ok (.getfield 19, 3) := by decide +kernel
theorem dX9_sayTerm_17 : decode cX9_sayTerm 17 = .ok (.iload_n 1, 1) := by decide +kernel
theorem dX9_sayTerm_18 : decode cX9_sayTerm 18 = .ok (.iaload, 1) := by decide +kernel
theorem dX9_sayTerm_19 : decode cX9_sayTerm 19 = .ok (.iload_n 3, 1) := by decide +kernel
theorem dX9_sayTerm_20 : decode cX9_sayTerm 20 = .ok (.if_icmp .le 52, 3) := by decide +kernel
theorem dX9_sayTerm_23 : decode cX9_sayTerm 23 = .ok (.iload_n 2, 1) := by decide +kernel
theorem dX9_sayTerm_24 : decode cX9_sayTerm 24 = .ok (.istore 5, 2) := by decide +kernel
theorem dX9_sayTerm_26 : decode cX9_sayTerm 26 = .ok (.iload_n 3, 1) := by decide +kernel
theorem dX9_sayTerm_27 : decode cX9_sayTerm 27 = .ok (.iconst 1, 1) := by decide +kernel
theorem dX9_sayTerm_28 : decode cX9_sayTerm 28 = .ok (.iadd, 1) := by decide +kernel
theorem dX9_sayTerm_29 : decode cX9_sayTerm 29 = .ok (.istore 6, 2) := by decide +kernel
theorem dX9_sayTerm_31 : decode cX9_sayTerm 31 = .ok (.iload 6, 2) := by decide +kernel
theorem dX9_sayTerm_33 : decode cX9_sayTerm 33 = .ok (.aload_n 0, 1) := by decide +kernel
theorem dX9_sayTerm_34 : decode cX9_sayTerm 34 = .ok (.getfield 19, 3) := by decide +kernel
theorem dX9_sayTerm_37 : decode cX9_sayTerm 37 = .ok (.iload_n 1, 1) := by decide +kernel
theorem dX9_sayTerm_38 : decode cX9_sayTerm 38 = .ok (.iaload, 1) := by decide +kernel
theorem dX9_sayTerm_39 : decode cX9_sayTerm 39 = .ok (.if_icmp .ge 18, 3) := by decide +kernel
theorem dX9_sayTerm_42 : decode cX9_sayTerm 42 = .ok (.aload_n 0, 1) := by decide +kernel
theorem dX9_sayTerm_43 : decode cX9_sayTerm 43 = .ok (.getfield 65, 3) := by decide +kernel
theorem dX9_sayTerm_46 : decode cX9_sayTerm 46 = .ok (.iload 5, 2) := by decide +kernel
theorem dX9_sayTerm_48 : decode cX9_sayTerm 48 = .ok (.iaload, 1) := by decide +kernel
theorem dX9_sayTerm_49 : decode cX9_sayTerm 49 = .ok (.istore 5, 2) := by decide +kernel
theorem dX9_sayTerm_51 : decode cX9_sayTerm 51 = .ok (.iinc 6 1, 3) := by decide +kernel
theorem dX9_sayTerm_54 : decode cX9_sayTerm 54 = .ok (.goto (-23), 3) := by decide +kernel
theorem dX9_sayTerm_57 : decode cX9_sayTerm 57 = .ok (.aload_n 0, 1) := by decide +kernel
theorem dX9_sayTerm_58 : decode cX9_sayTerm 58 = .ok (.iconst 0, 1) := by decide +kernel
theorem dX9_sayTerm_59 : decode cX9_sayTerm 59 = .ok (.aload_n 0, 1) := by decide +kernel
theorem dX9_sayTerm_60 : decode cX9_sayTerm 60 = .ok (.getfield 62, 3) := by decide +kernel
theorem dX9_sayTerm_63 : decode cX9_sayTerm 63 = .ok (.iload 5, 2) := by decide +kernel
theorem dX9_sayTerm_65 : decode cX9_sayTerm 65 = .ok (.iaload, 1) := by decide +kernel
theorem dX9_sayTerm_66 : decode cX9_sayTerm 66 = .ok (.iconst (-1), 1) := by decide +kernel
theorem dX9_sayTerm_67 : decode cX9_sayTerm 67 = .ok (.iconst 0, 1) := by decide +kernel
theorem dX9_sayTerm_68 : decode cX9_sayTerm 68 = .ok (.invokevirtual 283, 3) := by decide +kernel
theorem dX9_sayTerm_71 : decode cX9_sayTerm 71 = .ok (.return_, 1) := by decide +kernel
theorem dX9_sayTerm_72 : decode cX9_sayTerm 72 = .ok (.iload 4, 2) := by decide +kernel
theorem dX9_sayTerm_74 : decode cX9_sayTerm 74 = .ok (.iconst 4, 1) := by decide +kernel
theorem dX9_sayTerm_75 : decode cX9_sayTerm 75 = .ok (.if_icmp .ne 26, 3) := by decide +kernel
theorem dX9_sayTerm_78 : decode cX9_sayTerm 78 = .ok (.aload_n 0, 1) := by decide +kernel
theorem dX9_sayTerm_79 : decode cX9_sayTerm 79 = .ok (.aload_n 0, 1) := by decide +kernel
theorem dX9_sayTerm_80 : decode cX9_sayTerm 80 = .ok (.getfield 16, 3) := by decide +kernel
theorem dX9_sayTerm_83 : decode cX9_sayTerm 83 = .ok (.iload_n 1, 1) := by decide +kernel
theorem dX9_sayTerm_84 : decode cX9_sayTerm 84 = .ok (.iaload, 1) := by decide +kernel
theorem dX9_sayTerm_85 : decode cX9_sayTerm 85 = .ok (.aload_n 0, 1) := by decide +kernel
theorem dX9_sayTerm_86 : decode cX9_sayTerm 86 = .ok (.getfield 19, 3) := by decide +kernel
theorem dX9_sayTerm_89 : decode cX9_sayTerm 89 = .ok (.iload_n 1, 1) := by decide +kernel
theorem dX9_sayTerm_90 : decode cX9_sayTerm 90 = .ok (.iaload, 1) := by decide +kernel
theorem dX9_sayTerm_91 : decode cX9_sayTerm 91 = .ok (.aload_n 0, 1) := by decide +kernel
theorem dX9_sayTerm_92 : decode cX9_sayTerm 92 = .ok (.getfield 22, 3) := by decide +kernel
theorem dX9_sayTerm_95 : decode cX9_sayTerm 95 = .ok (.iload_n 1, 1) := by decide +kernel
theorem dX9_sayTerm_96 : decode cX9_sayTerm 96 = .ok (.laload, 1) := by decide +kernel
theorem dX9_sayTerm_97 : decode cX9_sayTerm 97 = .ok (.invokevirtual 279, 3) := by decide +kernel
theorem dX9_sayTerm_100 : decode cX9_sayTerm 100 = .ok (.return_, 1) := by decide +kernel
theorem dX9_sayTerm_101 : decode cX9_sayTerm 101 = .ok (.aload_n 0, 1) := by decide +kernel
theorem dX9_sayTerm_102 : decode cX9_sayTerm 102 = .ok (.iload 4, 2) := by decide +kernel
theorem dX9_sayTerm_104 : decode cX9_sayTerm 104 = .ok (.invokevirtual 276, 3) := by decide +kernel
theorem dX9_sayTerm_107 : decode cX9_sayTerm 107 = .ok (.iload 4, 2) := by decide +kernel
theorem dX9_sayTerm_109 : decode cX9_sayTerm 109 = .ok (.ifCond .eq 10, 3) := by decide +kernel
theorem dX9_sayTerm_112 : decode cX9_sayTerm 112 = .ok (.iload 4, 2) := by decide +kernel
theorem dX9_sayTerm_114 : decode cX9_sayTerm 114 = .ok (.bipush 7, 2) := by decide +kernel
theorem dX9_sayTerm_116 : decode cX9_sayTerm 116 = .ok (.if_icmp .ne 13, 3) := by decide +kernel
theorem dX9_sayTerm_119 : decode cX9_sayTerm 119 = .ok (.aload_n 0, 1) := by decide +kernel
theorem dX9_sayTerm_120 : decode cX9_sayTerm 120 = .ok (.aload_n 0, 1) := by decide +kernel
theorem dX9_sayTerm_121 : decode cX9_sayTerm 121 = .ok (.getfield 19, 3) := by decide +kernel
theorem dX9_sayTerm_124 : decode cX9_sayTerm 124 = .ok (.iload_n 1, 1) := by decide +kernel
theorem dX9_sayTerm_125 : decode cX9_sayTerm 125 = .ok (.iaload, 1) := by decide +kernel
theorem dX9_sayTerm_126 : decode cX9_sayTerm 126 = .ok (.invokevirtual 276, 3) := by decide +kernel
theorem dX9_sayTerm_129 : decode cX9_sayTerm 129 = .ok (.iload 4, 2) := by decide +kernel
theorem dX9_sayTerm_131 : decode cX9_sayTerm 131 = .ok (.iconst 3, 1) := by decide +kernel
theorem dX9_sayTerm_132 : decode cX9_sayTerm 132 = .ok (.if_icmp .ne 16, 3) := by decide +kernel
theorem dX9_sayTerm_135 : decode cX9_sayTerm 135 = .ok (.aload_n 0, 1) := by decide +kernel
theorem dX9_sayTerm_136 : decode cX9_sayTerm 136 = .ok (.iconst 1, 1) := by decide +kernel
theorem dX9_sayTerm_137 : decode cX9_sayTerm 137 = .ok (.aload_n 0, 1) := by decide +kernel
theorem dX9_sayTerm_138 : decode cX9_sayTerm 138 = .ok (.getfield 29, 3) := by decide +kernel
theorem dX9_sayTerm_141 : decode cX9_sayTerm 141 = .ok (.iload_n 1, 1) := by decide +kernel
theorem dX9_sayTerm_142 : decode cX9_sayTerm 142 = .ok (.iaload, 1) := by decide +kernel
theorem dX9_sayTerm_143 : decode cX9_sayTerm 143 = .ok (.iload_n 2, 1) := by decide +kernel
theorem dX9_sayTerm_144 : decode cX9_sayTerm 144 = .ok (.iload_n 3, 1) := by decide +kernel
theorem dX9_sayTerm_145 : decode cX9_sayTerm 145 = .ok (.invokevirtual 283, 3) := by decide +kernel
theorem dX9_sayTerm_148 : decode cX9_sayTerm 148 = .ok (.iload 4, 2) := by decide +kernel
theorem dX9_sayTerm_150 : decode cX9_sayTerm 150 = .ok (.iconst 1, 1) := by decide +kernel
theorem dX9_sayTerm_151 : decode cX9_sayTerm 151 = .ok (.if_icmp .lt 9, 3) := by decide +kernel
theorem dX9_sayTerm_154 : decode cX9_sayTerm 154 = .ok (.iload 4, 2) := by decide +kernel
theorem dX9_sayTerm_156 : decode cX9_sayTerm 156 = .ok (.iconst 3, 1) := by decide +kernel
theorem dX9_sayTerm_157 : decode cX9_sayTerm 157 = .ok (.if_icmp .le 9, 3) := by decide +kernel
theorem dX9_sayTerm_160 : decode cX9_sayTerm 160 = .ok (.iload 4, 2) := by decide +kernel
theorem dX9_sayTerm_162 : decode cX9_sayTerm 162 = .ok (.iconst 5, 1) := by decide +kernel
theorem dX9_sayTerm_163 : decode cX9_sayTerm 163 = .ok (.if_icmp .ne 28, 3) := by decide +kernel
theorem dX9_sayTerm_166 : decode cX9_sayTerm 166 = .ok (.aload_n 0, 1) := by decide +kernel
theorem dX9_sayTerm_167 : decode cX9_sayTerm 167 = .ok (.iconst 1, 1) := by decide +kernel
theorem dX9_sayTerm_168 : decode cX9_sayTerm 168 = .ok (.aload_n 0, 1) := by decide +kernel
theorem dX9_sayTerm_169 : decode cX9_sayTerm 169 = .ok (.getfield 26, 3) := by decide +kernel
theorem dX9_sayTerm_172 : decode cX9_sayTerm 172 = .ok (.iload_n 1, 1) := by decide +kernel
theorem dX9_sayTerm_173 : decode cX9_sayTerm 173 = .ok (.iaload, 1) := by decide +kernel
theorem dX9_sayTerm_174 : decode cX9_sayTerm 174 = .ok (.iload_n 2, 1) := by decide +kernel
theorem dX9_sayTerm_175 : decode cX9_sayTerm 175 = .ok (.iload_n 3, 1) := by decide +kernel
theorem dX9_sayTerm_176 : decode cX9_sayTerm 176 = .ok (.iload 4, 2) := by decide +kernel
theorem dX9_sayTerm_178 : decode cX9_sayTerm 178 = .ok (.iconst 2, 1) := by decide +kernel
theorem dX9_sayTerm_179 : decode cX9_sayTerm 179 = .ok (.if_icmp .ne 7, 3) := by decide +kernel
theorem dX9_sayTerm_182 : decode cX9_sayTerm 182 = .ok (.iconst 1, 1) := by decide +kernel
theorem dX9_sayTerm_183 : decode cX9_sayTerm 183 = .ok (.goto 4, 3) := by decide +kernel
theorem dX9_sayTerm_186 : decode cX9_sayTerm 186 = .ok (.iconst 0, 1) := by decide +kernel
theorem dX9_sayTerm_187 : decode cX9_sayTerm 187 = .ok (.iadd, 1) := by decide +kernel
theorem dX9_sayTerm_188 : decode cX9_sayTerm 188 = .ok (.invokevirtual 283, 3) := by decide +kernel
theorem dX9_sayTerm_191 : decode cX9_sayTerm 191 = .ok (.return_, 1) := by decide +kernel
theorem dX9_tell_0 : decode cX9_tell 0 = .ok (.aload_n 0, 1) := by decide +kernel
theorem dX9_tell_1 : decode cX9_tell 1 = .ok (.iconst 0, 1) := by decide +kernel
theorem dX9_tell_2 : decode cX9_tell 2 = .ok (.putfield 122, 3) := by decide +kernel
theorem dX9_tell_5 : decode cX9_tell 5 = .ok (.aload_n 0, 1) := by decide +kernel
theorem dX9_tell_6 : decode cX9_tell 6 = .ok (.iconst 0, 1) := by decide +kernel
theorem dX9_tell_7 : decode cX9_tell 7 = .ok (.iload_n 1, 1) := by decide +kernel
theorem dX9_tell_8 : decode cX9_tell 8 = .ok (.iconst (-1), 1) := by decide +kernel
theorem dX9_tell_9 : decode cX9_tell 9 = .ok (.iconst 0, 1) := by decide +kernel
theorem dX9_tell_10 : decode cX9_tell 10 = .ok (.invokevirtual 283, 3) := by decide +kernel
theorem dX9_tell_13 : decode cX9_tell 13 = .ok (.aload_n 0, 1) := by decide +kernel
theorem dX9_tell_14 : decode cX9_tell 14 = .ok (.getfield 122, 3) := by decide +kernel
theorem dX9_tell_17 : decode cX9_tell 17 = .ok (.ifCond .le 89, 3) := by decide +kernel
theorem dX9_tell_20 : decode cX9_tell 20 = .ok (.aload_n 0, 1) := by decide +kernel
theorem dX9_tell_21 : decode cX9_tell 21 = .ok (.getfield 168, 3) := by decide +kernel
theorem dX9_tell_24 : decode cX9_tell 24 = .ok (.sipush 400, 3) := by decide +kernel
theorem dX9_tell_27 : decode cX9_tell 27 = .ok (.if_icmp .ge 79, 3) := by decide +kernel
theorem dX9_tell_30 : decode cX9_tell 30 = .ok (.aload_n 0, 1) := by decide +kernel
theorem dX9_tell_31 : decode cX9_tell 31 = .ok (.dup, 1) := by decide +kernel
theorem dX9_tell_32 : decode cX9_tell 32 = .ok (.getfield 122, 3) := by decide +kernel
theorem dX9_tell_35 : decode cX9_tell 35 = .ok (.iconst 1, 1) := by decide +kernel
theorem dX9_tell_36 : decode cX9_tell 36 = .ok (.isub, 1) := by decide +kernel
theorem dX9_tell_37 : decode cX9_tell 37 = .ok (.putfield 122, 3) := by decide +kernel
theorem dX9_tell_40 : decode cX9_tell 40 = .ok (.aload_n 0, 1) := by decide +kernel
theorem dX9_tell_41 : decode cX9_tell 41 = .ok (.getfield 80, 3) := by decide +kernel
theorem dX9_tell_44 : decode cX9_tell 44 = .ok (.aload_n 0, 1) := by decide +kernel
theorem dX9_tell_45 : decode cX9_tell 45 = .ok (.getfield 122, 3) := by decide +kernel
theorem dX9_tell_48 : decode cX9_tell 48 = .ok (.iaload, 1) := by decide +kernel
theorem dX9_tell_49 : decode cX9_tell 49 = .ok (.iconst 2, 1) := by decide +kernel
theorem dX9_tell_50 : decode cX9_tell 50 = .ok (.idiv, 1) := by decide +kernel
theorem dX9_tell_51 : decode cX9_tell 51 = .ok (.istore_n 2, 1) := by decide +kernel
theorem dX9_tell_52 : decode cX9_tell 52 = .ok (.aload_n 0, 1) := by decide +kernel
theorem dX9_tell_53 : decode cX9_tell 53 = .ok (.getfield 83, 3) := by decide +kernel
theorem dX9_tell_56 : decode cX9_tell 56 = .ok (.aload_n 0, 1) := by decide +kernel
theorem dX9_tell_57 : decode cX9_tell 57 = .ok (.getfield 122, 3) := by decide +kernel
theorem dX9_tell_60 : decode cX9_tell 60 = .ok (.iaload, 1) := by decide +kernel
theorem dX9_tell_61 : decode cX9_tell 61 = .ok (.istore_n 3, 1) := by decide +kernel
theorem dX9_tell_62 : decode cX9_tell 62 = .ok (.aload_n 0, 1) := by decide +kernel
theorem dX9_tell_63 : decode cX9_tell 63 = .ok (.getfield 86, 3) := by decide +kernel
theorem dX9_tell_66 : decode cX9_tell 66 = .ok (.aload_n 0, 1) := by decide +kernel
theorem dX9_tell_67 : decode cX9_tell 67 = .ok (.getfield 122, 3) := by decide +kernel
theorem dX9_tell_70 : decode cX9_tell 70 = .ok (.iaload, 1) := by decide +kernel
theorem dX9_tell_71 : decode cX9_tell 71 = .ok (.istore 4, 2) := by decide +kernel
theorem dX9_tell_73 : decode cX9_tell 73 = .ok (.aload_n 0, 1) := by decide +kernel
theorem dX9_tell_74 : decode cX9_tell 74 = .ok (.getfield 80, 3) := by decide +kernel
theorem dX9_tell_77 : decode cX9_tell 77 = .ok (.aload_n 0, 1) := by decide +kernel
theorem dX9_tell_78 : decode cX9_tell 78 = .ok (.getfield 122, 3) := by decide +kernel
theorem dX9_tell_81 : decode cX9_tell 81 = .ok (.iaload, 1) := by decide +kernel
theorem dX9_tell_82 : decode cX9_tell 82 = .ok (.iconst 2, 1) := by decide +kernel
theorem dX9_tell_83 : decode cX9_tell 83 = .ok (.irem, 1) := by decide +kernel
theorem dX9_tell_84 : decode cX9_tell 84 = .ok (.ifCond .ne 11, 3) := by decide +kernel
theorem dX9_tell_87 : decode cX9_tell 87 = .ok (.aload_n 0, 1) := by decide +kernel
theorem dX9_tell_88 : decode cX9_tell 88 = .ok (.iload_n 2, 1) := by decide +kernel
theorem dX9_tell_89 : decode cX9_tell 89 = .ok (.invokevirtual 287, 3) := by decide +kernel
theorem dX9_tell_92 : decode cX9_tell 92 = .ok (.goto 11, 3) := by decide +kernel
theorem dX9_tell_95 : decode cX9_tell 95 = .ok (.aload_n 0, 1) := by decide +kernel
theorem dX9_tell_96 : decode cX9_tell 96 = .ok (.iload_n 2, 1) := by decide +kernel
theorem dX9_tell_97 : decode cX9_tell 97 = .ok (.iload_n 3, 1) := by decide +kernel
theorem dX9_tell_98 : decode cX9_tell 98 = .ok (.iload 4, 2) := by decide +kernel
theorem dX9_tell_100 : decode cX9_tell 100 = .ok (.invokevirtual 290, 3) := by decide +kernel
theorem dX9_tell_103 : decode cX9_tell 103 = .ok (.goto (-90), 3) := by decide +kernel
theorem dX9_tell_106 : decode cX9_tell 106 = .ok (.return_, 1) := by decide +kernel
theorem dX9_told_0 : decode cX9_told 0 = .ok (.aload_n 0, 1) := by decide +kernel
theorem dX9_told_1 : decode cX9_told 1 = .ok (.iconst 0, 1) := by decide +kernel
theorem dX9_told_2 : decode cX9_told 2 = .ok (.putfield 89, 3) := by decide +kernel
theorem dX9_told_5 : decode cX9_told 5 = .ok (.iload_n 1, 1) := by decide +kernel
theorem dX9_told_6 : decode cX9_told 6 = .ok (.ifCond .lt 11, 3) := by decide +kernel
theorem dX9_told_9 : decode cX9_told 9 = .ok (.iload_n 1, 1) := by decide +kernel
theorem dX9_told_10 : decode cX9_told 10 = .ok (.aload_n 0, 1) := by decide +kernel
theorem dX9_told_11 : decode cX9_told 11 = .ok (.getfield 168, 3) := by decide +kernel
theorem dX9_told_14 : decode cX9_told 14 = .ok (.if_icmp .lt 7, 3) := by decide +kernel
theorem dX9_told_17 : decode cX9_told 17 = .ok (.iconst (-1), 1) := by decide +kernel
theorem dX9_told_18 : decode cX9_told 18 = .ok (.goto 9, 3) := by decide +kernel
theorem dX9_told_21 : decode cX9_told 21 = .ok (.aload_n 0, 1) := by decide +kernel
theorem dX9_told_22 : decode cX9_told 22 = .ok (.getfield 77, 3) := by decide +kernel
theorem dX9_told_25 : decode cX9_told 25 = .ok (.iload_n 1, 1) := by decide +kernel
theorem dX9_told_26 : decode cX9_told 26 = .ok (.iaload, 1) := by decide +kernel
theorem dX9_told_27 : decode cX9_told 27 = .ok (.ireturn, 1) := by decide +kernel
theorem dX9_about_0 : decode cX9_about 0 = .ok (.aload_n 0, 1) := by decide +kernel
theorem dX9_about_1 : decode cX9_about 1 = .ok (.iconst 0, 1) := by decide +kernel
theorem dX9_about_2 : decode cX9_about 2 = .ok (.putfield 89, 3) := by decide +kernel
theorem dX9_about_5 : decode cX9_about 5 = .ok (.iload_n 1, 1) := by decide +kernel
theorem dX9_about_6 : decode cX9_about 6 = .ok (.tableswitch 95 0 8 #[50, 55, 60, 65, 70, 75, 80, 85, 90], 50) := by decide +kernel
theorem dX9_about_56 : decode cX9_about 56 = .ok (.aload_n 0, 1) := by decide +kernel
theorem dX9_about_57 : decode cX9_about 57 = .ok (.getfield 93, 3) := by decide +kernel
theorem dX9_about_60 : decode cX9_about 60 = .ok (.ireturn, 1) := by decide +kernel
theorem dX9_about_61 : decode cX9_about 61 = .ok (.aload_n 0, 1) := by decide +kernel
theorem dX9_about_62 : decode cX9_about 62 = .ok (.getfield 138, 3) := by decide +kernel
theorem dX9_about_65 : decode cX9_about 65 = .ok (.ireturn, 1) := by decide +kernel
theorem dX9_about_66 : decode cX9_about 66 = .ok (.aload_n 0, 1) := by decide +kernel
theorem dX9_about_67 : decode cX9_about 67 = .ok (.getfield 141, 3) := by decide +kernel
theorem dX9_about_70 : decode cX9_about 70 = .ok (.ireturn, 1) := by decide +kernel
theorem dX9_about_71 : decode cX9_about 71 = .ok (.aload_n 0, 1) := by decide +kernel
theorem dX9_about_72 : decode cX9_about 72 = .ok (.getfield 144, 3) := by decide +kernel
theorem dX9_about_75 : decode cX9_about 75 = .ok (.ireturn, 1) := by decide +kernel
theorem dX9_about_76 : decode cX9_about 76 = .ok (.aload_n 0, 1) := by decide +kernel
theorem dX9_about_77 : decode cX9_about 77 = .ok (.getfield 159, 3) := by decide +kernel
theorem dX9_about_80 : decode cX9_about 80 = .ok (.ireturn, 1) := by decide +kernel
theorem dX9_about_81 : decode cX9_about 81 = .ok (.aload_n 0, 1) := by decide +kernel
theorem dX9_about_82 : decode cX9_about 82 = .ok (.getfield 162, 3) := by decide +kernel
theorem dX9_about_85 : decode cX9_about 85 = .ok (.ireturn, 1) := by decide +kernel
theorem dX9_about_86 : decode cX9_about 86 = .ok (.aload_n 0, 1) := by decide +kernel
theorem dX9_about_87 : decode cX9_about 87 = .ok (.getfield 156, 3) := by decide +kernel
theorem dX9_about_90 : decode cX9_about 90 = .ok (.ireturn, 1) := by decide +kernel
theorem dX9_about_91 : decode cX9_about 91 = .ok (.aload_n 0, 1) := by decide +kernel
theorem dX9_about_92 : decode cX9_about 92 = .ok (.getfield 165, 3) := by decide +kernel
theorem dX9_about_95 : decode cX9_about 95 = .ok (.ireturn, 1) := by decide +kernel
theorem dX9_about_96 : decode cX9_about 96 = .ok (.aload_n 0, 1) := by decide +kernel
theorem dX9_about_97 : decode cX9_about 97 = .ok (.getfield 168, 3) := by decide +kernel
theorem dX9_about_100 : decode cX9_about 100 = .ok (.ireturn, 1) := by decide +kernel
theorem dX9_about_101 : decode cX9_about 101 = .ok (.iconst (-1), 1) := by decide +kernel
theorem dX9_about_102 : decode cX9_about 102 = .ok (.ireturn, 1) := by decide +kernel
