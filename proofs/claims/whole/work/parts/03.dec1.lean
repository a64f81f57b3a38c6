theorem dX0_init_0 : decode cX0_init 0 = .ok (.aload_n 0, 1) := by decide +kernel
theorem dX0_init_1 : decode cX0_init 1 = .ok (.invokespecial 3, 3) := by decide +kernel
theorem dX0_init_4 : decode cX0_init 4 = .ok (.aload_n 0, 1) := by decide +kernel
theorem dX0_init_5 : decode cX0_init 5 = .ok (.iconst 3, 1) := by decide +kernel
theorem dX0_init_6 : decode cX0_init 6 = .ok (.newarray .int, 2) := by decide +kernel
theorem dX0_init_8 : decode cX0_init 8 = .ok (.putfield 9, 3) := by decide +kernel
theorem dX0_init_11 : decode cX0_init 11 = .ok (.aload_n 0, 1) := by decide +kernel
theorem dX0_init_12 : decode cX0_init 12 = .ok (.iconst 0, 1) := by decide +kernel
theorem dX0_init_13 : decode cX0_init 13 = .ok (.putfield 15, 3) := by decide +kernel
theorem dX0_init_16 : decode cX0_init 16 = .ok (.aload_n 0, 1) := by decide +kernel
theorem dX0_init_17 : decode cX0_init 17 = .ok (.iconst 0, 1) := by decide +kernel
theorem dX0_init_18 : decode cX0_init 18 = .ok (.putfield 19, 3) := by decide +kernel
theorem dX0_init_21 : decode cX0_init 21 = .ok (.aload_n 0, 1) := by decide +kernel
theorem dX0_init_22 : decode cX0_init 22 = .ok (.iconst 0, 1) := by decide +kernel
theorem dX0_init_23 : decode cX0_init 23 = .ok (.putfield 22, 3) := by decide +kernel
theorem dX0_init_26 : decode cX0_init 26 = .ok (.aload_n 0, 1) := by decide +kernel
theorem dX0_init_27 : decode cX0_init 27 = .ok (.iconst (-1), 1) := by decide +kernel
theorem dX0_init_28 : decode cX0_init 28 = .ok (.putfield 26, 3) := by decide +kernel
theorem dX0_init_31 : decode cX0_init 31 = .ok (.aload_n 0, 1) := by decide +kernel
theorem dX0_init_32 : decode cX0_init 32 = .ok (.iconst 2, 1) := by decide +kernel
theorem dX0_init_33 : decode cX0_init 33 = .ok (.putfield 29, 3) := by decide +kernel
theorem dX0_init_36 : decode cX0_init 36 = .ok (.aload_n 0, 1) := by decide +kernel
theorem dX0_init_37 : decode cX0_init 37 = .ok (.lconst 0, 1) := by decide +kernel
theorem dX0_init_38 : decode cX0_init 38 = .ok (.putfield 32, 3) := by decide +kernel
theorem dX0_init_41 : decode cX0_init 41 = .ok (.return_, 1) := by decide +kernel
theorem dX0_prepare_0 : decode cX0_prepare 0 = .ok (.aload_n 0, 1) := by decide +kernel
theorem dX0_prepare_1 : decode cX0_prepare 1 = .ok (.aload_n 1, 1) := by decide +kernel
theorem dX0_prepare_2 : decode cX0_prepare 2 = .ok (.iload_n 2, 1) := by decide +kernel
theorem dX0_prepare_3 : decode cX0_prepare 3 = .ok (.invokevirtual 36, 3) := by decide +kernel
theorem dX0_prepare_6 : decode cX0_prepare 6 = .ok (.putfield 15, 3) := by decide +kernel
theorem dX0_prepare_9 : decode cX0_prepare 9 = .ok (.aload_n 0, 1) := by decide +kernel
theorem dX0_prepare_10 : decode cX0_prepare 10 = .ok (.getstatic 42, 3) := by decide +kernel
theorem dX0_prepare_13 : decode cX0_prepare 13 = .ok (.aload_n 0, 1) := by decide +kernel
theorem dX0_prepare_14 : decode cX0_prepare 14 = .ok (.getfield 15, 3) := by decide +kernel
theorem dX0_prepare_17 : decode cX0_prepare 17 = .ok (.invokestatic 45, 3) := by decide +kernel
theorem dX0_prepare_20 : decode cX0_prepare 20 = .ok (.putfield 19, 3) := by decide +kernel
theorem dX0_prepare_23 : decode cX0_prepare 23 = .ok (.iload_n 3, 1) := by decide +kernel
theorem dX0_prepare_24 : decode cX0_prepare 24 = .ok (.istore 4, 2) := by decide +kernel
theorem dX0_prepare_26 : decode cX0_prepare 26 = .ok (.iload_n 2, 1) := by decide +kernel
theorem dX0_prepare_27 : decode cX0_prepare 27 = .ok (.istore 5, 2) := by decide +kernel
theorem dX0_prepare_29 : decode cX0_prepare 29 = .ok (.aload_n 0, 1) := by decide +kernel
theorem dX0_prepare_30 : decode cX0_prepare 30 = .ok (.getfield 19, 3) := by decide +kernel
theorem dX0_prepare_33 : decode cX0_prepare 33 = .ok (.iconst 1, 1) := by decide +kernel
theorem dX0_prepare_34 : decode cX0_prepare 34 = .ok (.isub, 1) := by decide +kernel
theorem dX0_prepare_35 : decode cX0_prepare 35 = .ok (.istore 6, 2) := by decide +kernel
theorem dX0_prepare_37 : decode cX0_prepare 37 = .ok (.iload 6, 2) := by decide +kernel
theorem dX0_prepare_39 : decode cX0_prepare 39 = .ok (.ifCond .lt 46, 3) := by decide +kernel
theorem dX0_prepare_42 : decode cX0_prepare 42 = .ok (.iload 6, 2) := by decide +kernel
theorem dX0_prepare_44 : decode cX0_prepare 44 = .ok (.iconst 3, 1) := by decide +kernel
theorem dX0_prepare_45 : decode cX0_prepare 45 = .ok (.if_icmp .ge 40, 3) := by decide +kernel
theorem dX0_prepare_48 : decode cX0_prepare 48 = .ok (.aload_n 0, 1) := by decide +kernel
theorem dX0_prepare_49 : decode cX0_prepare 49 = .ok (.getfield 9, 3) := by decide +kernel
theorem dX0_prepare_52 : decode cX0_prepare 52 = .ok (.iload 6, 2) := by decide +kernel
theorem dX0_prepare_54 : decode cX0_prepare 54 = .ok (.iload 4, 2) := by decide +kernel
theorem dX0_prepare_56 : decode cX0_prepare 56 = .ok (.iastore, 1) := by decide +kernel
theorem dX0_prepare_57 : decode cX0_prepare 57 = .ok (.aload_n 1, 1) := by decide +kernel
theorem dX0_prepare_58 : decode cX0_prepare 58 = .ok (.getfield 49, 3) := by decide +kernel
theorem dX0_prepare_61 : decode cX0_prepare 61 = .ok (.iload 5, 2) := by decide +kernel
theorem dX0_prepare_63 : decode cX0_prepare 63 = .ok (.invokestatic 45, 3) := by decide +kernel
theorem dX0_prepare_66 : decode cX0_prepare 66 = .ok (.istore 4, 2) := by decide +kernel
theorem dX0_prepare_68 : decode cX0_prepare 68 = .ok (.aload_n 1, 1) := by decide +kernel
theorem dX0_prepare_69 : decode cX0_prepare 69 = .ok (.getfield 52, 3) := by decide +kernel
theorem dX0_prepare_72 : decode cX0_prepare 72 = .ok (.iload 5, 2) := by decide +kernel
theorem dX0_prepare_74 : decode cX0_prepare 74 = .ok (.invokestatic 45, 3) := by decide +kernel
theorem dX0_prepare_77 : decode cX0_prepare 77 = .ok (.istore 5, 2) := by decide +kernel
theorem dX0_prepare_79 : decode cX0_prepare 79 = .ok (.iinc 6 (-1), 3) := by decide +kernel
theorem dX0_prepare_82 : decode cX0_prepare 82 = .ok (.goto (-45), 3) := by decide +kernel
theorem dX0_prepare_85 : decode cX0_prepare 85 = .ok (.return_, 1) := by decide +kernel
theorem dX0_cost_0 : decode cX0_cost 0 = .ok (.getstatic 55, 3) := by decide +kernel
theorem dX0_cost_3 : decode cX0_cost 3 = .ok (.aload_n 0, 1) := by decide +kernel
theorem dX0_cost_4 : decode cX0_cost 4 = .ok (.getfield 15, 3) := by decide +kernel
theorem dX0_cost_7 : decode cX0_cost 7 = .ok (.invokestatic 45, 3) := by decide +kernel
theorem dX0_cost_10 : decode cX0_cost 10 = .ok (.istore_n 2, 1) := by decide +kernel
theorem dX0_cost_11 : decode cX0_cost 11 = .ok (.aload_n 0, 1) := by decide +kernel
theorem dX0_cost_12 : decode cX0_cost 12 = .ok (.getfield 15, 3) := by decide +kernel
theorem dX0_cost_15 : decode cX0_cost 15 = .ok (.bipush 7, 2) := by decide +kernel
theorem dX0_cost_17 : decode cX0_cost 17 = .ok (.if_icmp .eq 12, 3) := by decide +kernel
theorem dX0_cost_20 : decode cX0_cost 20 = .ok (.aload_n 0, 1) := by decide +kernel
theorem dX0_cost_21 : decode cX0_cost 21 = .ok (.getfield 15, 3) := by decide +kernel
theorem dX0_cost_24 : decode cX0_cost 24 = .ok (.bipush 9, 2) := by decide +kernel
theorem dX0_cost_26 : decode cX0_cost 26 = .ok (.if_icmp .ne 57, 3) := by decide +kernel
theorem dX0_cost_29 : decode cX0_cost 29 = .ok (.iconst 0, 1) := by decide +kernel
theorem dX0_cost_30 : decode cX0_cost 30 = .ok (.istore_n 3, 1) := by decide +kernel
theorem dX0_cost_31 : decode cX0_cost 31 = .ok (.iload_n 3, 1) := by decide +kernel
theorem dX0_cost_32 : decode cX0_cost 32 = .ok (.aload_n 0, 1) := by decide +kernel
theorem dX0_cost_33 : decode cX0_cost 33 = .ok (.getfield 19, 3) := by decide +kernel
theorem dX0_cost_36 : decode cX0_cost 36 = .ok (.if_icmp .ge 47, 3) := by decide +kernel
theorem dX0_cost_39 : decode cX0_cost 39 = .ok (.aload_n 0, 1) := by decide +kernel
theorem dX0_cost_40 : decode cX0_cost 40 = .ok (.getfield 9, 3) := by decide +kernel
theorem dX0_cost_43 : decode cX0_cost 43 = .ok (.iload_n 3, 1) := by decide +kernel
theorem dX0_cost_44 : decode cX0_cost 44 = .ok (.invokestatic 45, 3) := by decide +kernel
theorem dX0_cost_47 : decode cX0_cost 47 = .ok (.istore 4, 2) := by decide +kernel
theorem dX0_cost_49 : decode cX0_cost 49 = .ok (.aload_n 1, 1) := by decide +kernel
theorem dX0_cost_50 : decode cX0_cost 50 = .ok (.getfield 58, 3) := by decide +kernel
theorem dX0_cost_53 : decode cX0_cost 53 = .ok (.iload 4, 2) := by decide +kernel
theorem dX0_cost_55 : decode cX0_cost 55 = .ok (.invokestatic 45, 3) := by decide +kernel
theorem dX0_cost_58 : decode cX0_cost 58 = .ok (.iconst 3, 1) := by decide +kernel
theorem dX0_cost_59 : decode cX0_cost 59 = .ok (.if_icmp .ne 18, 3) := by decide +kernel
theorem dX0_cost_62 : decode cX0_cost 62 = .ok (.iload_n 2, 1) := by decide +kernel
theorem dX0_cost_63 : decode cX0_cost 63 = .ok (.aload_n 1, 1) := by decide +kernel
theorem dX0_cost_64 : decode cX0_cost 64 = .ok (.getfield 60, 3) := by decide +kernel
theorem dX0_cost_67 : decode cX0_cost 67 = .ok (.iload 4, 2) := by decide +kernel
theorem dX0_cost_69 : decode cX0_cost 69 = .ok (.invokestatic 63, 3) := by decide +kernel
theorem dX0_cost_72 : decode cX0_cost 72 = .ok (.invokestatic 67, 3) := by decide +kernel
theorem dX0_cost_75 : decode cX0_cost 75 = .ok (.iadd, 1) := by decide +kernel
theorem dX0_cost_76 : decode cX0_cost 76 = .ok (.istore_n 2, 1) := by decide +kernel
theorem dX0_cost_77 : decode cX0_cost 77 = .ok (.iinc 3 1, 3) := by decide +kernel
theorem dX0_cost_80 : decode cX0_cost 80 = .ok (.goto (-49), 3) := by decide +kernel
theorem dX0_cost_83 : decode cX0_cost 83 = .ok (.iload_n 2, 1) := by decide +kernel
theorem dX0_cost_84 : decode cX0_cost 84 = .ok (.ireturn, 1) := by decide +kernel
theorem dX0_valuesMade_0 : decode cX0_valuesMade 0 = .ok (.aload_n 0, 1) := by decide +kernel
theorem dX0_valuesMade_1 : decode cX0_valuesMade 1 = .ok (.getfield 22, 3) := by decide +kernel
theorem dX0_valuesMade_4 : decode cX0_valuesMade 4 = .ok (.ifCond .ne 11, 3) := by decide +kernel
theorem dX0_valuesMade_7 : decode cX0_valuesMade 7 = .ok (.aload_n 0, 1) := by decide +kernel
theorem dX0_valuesMade_8 : decode cX0_valuesMade 8 = .ok (.getfield 26, 3) := by decide +kernel
theorem dX0_valuesMade_11 : decode cX0_valuesMade 11 = .ok (.iconst (-1), 1) := by decide +kernel
theorem dX0_valuesMade_12 : decode cX0_valuesMade 12 = .ok (.if_icmp .eq 7, 3) := by decide +kernel
theorem dX0_valuesMade_15 : decode cX0_valuesMade 15 = .ok (.iconst 1, 1) := by decide +kernel
theorem dX0_valuesMade_16 : decode cX0_valuesMade 16 = .ok (.goto 4, 3) := by decide +kernel
theorem dX0_valuesMade_19 : decode cX0_valuesMade 19 = .ok (.iconst 2, 1) := by decide +kernel
theorem dX0_valuesMade_20 : decode cX0_valuesMade 20 = .ok (.ireturn, 1) := by decide +kernel
theorem dX0_perform_0 : decode cX0_perform 0 = .ok (.aload_n 0, 1) := by decide +kernel
theorem dX0_perform_1 : decode cX0_perform 1 = .ok (.aload_n 0, 1) := by decide +kernel
theorem dX0_perform_2 : decode cX0_perform 2 = .ok (.aload_n 1, 1) := by decide +kernel
theorem dX0_perform_3 : decode cX0_perform 3 = .ok (.invokevirtual 73, 3) := by decide +kernel
theorem dX0_perform_6 : decode cX0_perform 6 = .ok (.ifCond .ne 7, 3) := by decide +kernel
theorem dX0_perform_9 : decode cX0_perform 9 = .ok (.iconst 1, 1) := by decide +kernel
theorem dX0_perform_10 : decode cX0_perform 10 = .ok (.goto 4, 3) := by decide +kernel
theorem dX0_perform_13 : decode cX0_perform 13 = .ok (.iconst 0, 1) := by decide +kernel
theorem dX0_perform_14 : decode cX0_perform 14 = .ok (.putfield 22, 3) := by decide +kernel
theorem dX0_perform_17 : decode cX0_perform 17 = .ok (.aload_n 0, 1) := by decide +kernel
theorem dX0_perform_18 : decode cX0_perform 18 = .ok (.iconst (-1), 1) := by decide +kernel
theorem dX0_perform_19 : decode cX0_perform 19 = .ok (.putfield 26, 3) := by decide +kernel
theorem dX0_perform_22 : decode cX0_perform 22 = .ok (.aload_n 0, 1) := by decide +kernel
theorem dX0_perform_23 : decode cX0_perform 23 = .ok (.getfield 22, 3) := by decide +kernel
theorem dX0_perform_26 : decode cX0_perform 26 = .ok (.ifCond .eq 4, 3) := by decide +kernel
theorem dX0_perform_29 : decode cX0_perform 29 = .ok (.return_, 1) := by decide +kernel
theorem dX0_perform_30 : decode cX0_perform 30 = .ok (.aload_n 1, 1) := by decide +kernel
theorem dX0_perform_31 : decode cX0_perform 31 = .ok (.getfield 60, 3) := by decide +kernel
theorem dX0_perform_34 : decode cX0_perform 34 = .ok (.aload_n 0, 1) := by decide +kernel
theorem dX0_perform_35 : decode cX0_perform 35 = .ok (.getfield 9, 3) := by decide +kernel
theorem dX0_perform_38 : decode cX0_perform 38 = .ok (.iconst 0, 1) := by decide +kernel
theorem dX0_perform_39 : decode cX0_perform 39 = .ok (.iaload, 1) := by decide +kernel
theorem dX0_perform_40 : decode cX0_perform 40 = .ok (.invokestatic 63, 3) := by decide +kernel
theorem dX0_perform_43 : decode cX0_perform 43 = .ok (.lstore_n 2, 1) := by decide +kernel
theorem dX0_perform_44 : decode cX0_perform 44 = .ok (.aload_n 0, 1) := by decide +kernel
theorem dX0_perform_45 : decode cX0_perform 45 = .ok (.getfield 19, 3) := by decide +kernel
theorem dX0_perform_48 : decode cX0_perform 48 = .ok (.iconst 1, 1) := by decide +kernel
theorem dX0_perform_49 : decode cX0_perform 49 = .ok (.if_icmp .le 19, 3) := by decide +kernel
theorem dX0_perform_52 : decode cX0_perform 52 = .ok (.aload_n 1, 1) := by decide +kernel
theorem dX0_perform_53 : decode cX0_perform 53 = .ok (.getfield 60, 3) := by decide +kernel
theorem dX0_perform_56 : decode cX0_perform 56 = .ok (.aload_n 0, 1) := by decide +kernel
theorem dX0_perform_57 : decode cX0_perform 57 = .ok (.getfield 9, 3) := by decide +kernel
theorem dX0_perform_60 : decode cX0_perform 60 = .ok (.iconst 1, 1) := by decide +kernel
theorem dX0_perform_61 : decode cX0_perform 61 = .ok (.iaload, 1) := by decide +kernel
theorem dX0_perform_62 : decode cX0_perform 62 = .ok (.invokestatic 63, 3) := by decide +kernel
theorem dX0_perform_65 : decode cX0_perform 65 = .ok (.goto 4, 3) := by decide +kernel
theorem dX0_perform_68 : decode cX0_perform 68 = .ok (.lconst 0, 1) := by decide +kernel
theorem dX0_perform_69 : decode cX0_perform 69 = .ok (.lstore 4, 2) := by decide +kernel
theorem dX0_perform_71 : decode cX0_perform 71 = .ok (.aload_n 0, 1) := by decide +kernel
theorem dX0_perform_72 : decode cX0_perform 72 = .ok (.getfield 15, 3) := by decide +kernel
theorem dX0_perform_75 : decode cX0_perform 75 = .ok (.tableswitch 88 6 11 #[37, 78, 78, 78, 65, 78], 37) := by decide +kernel
theorem dX0_perform_112 : decode cX0_perform 112 = .ok (.aload_n 0, 1) := by decide +kernel
theorem dX0_perform_113 : decode cX0_perform 113 = .ok (.lload_n 2, 1) := by decide +kernel
theorem dX0_perform_114 : decode cX0_perform 114 = .ok (.lconst 1, 1) := by decide +kernel
theorem dX0_perform_115 : decode cX0_perform 115 = .ok (.lcmp, 1) := by decide +kernel
theorem dX0_perform_116 : decode cX0_perform 116 = .ok (.ifCond .ne 12, 3) := by decide +kernel
theorem dX0_perform_119 : decode cX0_perform 119 = .ok (.aload_n 0, 1) := by decide +kernel
theorem dX0_perform_120 : decode cX0_perform 120 = .ok (.getfield 9, 3) := by decide +kernel
theorem dX0_perform_123 : decode cX0_perform 123 = .ok (.iconst 1, 1) := by decide +kernel
theorem dX0_perform_124 : decode cX0_perform 124 = .ok (.iaload, 1) := by decide +kernel
theorem dX0_perform_125 : decode cX0_perform 125 = .ok (.goto 9, 3) := by decide +kernel
theorem dX0_perform_128 : decode cX0_perform 128 = .ok (.aload_n 0, 1) := by decide +kernel
theorem dX0_perform_129 : decode cX0_perform 129 = .ok (.getfield 9, 3) := by decide +kernel
theorem dX0_perform_132 : decode cX0_perform 132 = .ok (.iconst 2, 1) := by decide +kernel
theorem dX0_perform_133 : decode cX0_perform 133 = .ok (.iaload, 1) := by decide +kernel
theorem dX0_perform_134 : decode cX0_perform 134 = .ok (.putfield 26, 3) := by decide +kernel
theorem dX0_perform_137 : decode cX0_perform 137 = .ok (.goto 33, 3) := by decide +kernel
theorem dX0_perform_140 : decode cX0_perform 140 = .ok (.aload_n 0, 1) := by decide +kernel
theorem dX0_perform_141 : decode cX0_perform 141 = .ok (.aload_n 0, 1) := by decide +kernel
theorem dX0_perform_142 : decode cX0_perform 142 = .ok (.getfield 9, 3) := by decide +kernel
theorem dX0_perform_145 : decode cX0_perform 145 = .ok (.iconst 1, 1) := by decide +kernel
theorem dX0_perform_146 : decode cX0_perform 146 = .ok (.iaload, 1) := by decide +kernel
theorem dX0_perform_147 : decode cX0_perform 147 = .ok (.putfield 26, 3) := by decide +kernel
theorem dX0_perform_150 : decode cX0_perform 150 = .ok (.goto 20, 3) := by decide +kernel
theorem dX0_perform_153 : decode cX0_perform 153 = .ok (.aload_n 0, 1) := by decide +kernel
theorem dX0_perform_154 : decode cX0_perform 154 = .ok (.lload_n 2, 1) := by decide +kernel
theorem dX0_perform_155 : decode cX0_perform 155 = .ok (.lload 4, 2) := by decide +kernel
theorem dX0_perform_157 : decode cX0_perform 157 = .ok (.invokevirtual 77, 3) := by decide +kernel
theorem dX0_perform_160 : decode cX0_perform 160 = .ok (.goto 10, 3) := by decide +kernel
theorem dX0_perform_163 : decode cX0_perform 163 = .ok (.aload_n 0, 1) := by decide +kernel
theorem dX0_perform_164 : decode cX0_perform 164 = .ok (.lload_n 2, 1) := by decide +kernel
theorem dX0_perform_165 : decode cX0_perform 165 = .ok (.lload 4, 2) := by decide +kernel
theorem dX0_perform_167 : decode cX0_perform 167 = .ok (.invokevirtual 81, 3) := by decide +kernel
theorem dX0_perform_170 : decode cX0_perform 170 = .ok (.return_, 1) := by decide +kernel
theorem dX0_fits_0 : decode cX0_fits 0 = .ok (.iconst 0, 1) := by decide +kernel
theorem dX0_fits_1 : decode cX0_fits 1 = .ok (.istore_n 2, 1) := by decide +kernel
theorem dX0_fits_2 : decode cX0_fits 2 = .ok (.iload_n 2, 1) := by decide +kernel
theorem dX0_fits_3 : decode cX0_fits 3 = .ok (.aload_n 0, 1) := by decide +kernel
theorem dX0_fits_4 : decode cX0_fits 4 = .ok (.getfield 19, 3) := by decide +kernel
theorem dX0_fits_7 : decode cX0_fits 7 = .ok (.if_icmp .ge 50, 3) := by decide +kernel
theorem dX0_fits_10 : decode cX0_fits 10 = .ok (.getstatic 84, 3) := by decide +kernel
theorem dX0_fits_13 : decode cX0_fits 13 = .ok (.iconst 3, 1) := by decide +kernel
theorem dX0_fits_14 : decode cX0_fits 14 = .ok (.aload_n 0, 1) := by decide +kernel
theorem dX0_fits_15 : decode cX0_fits 15 = .ok (.getfield 15, 3) := by decide +kernel
theorem dX0_fits_18 : decode cX0_fits 18 = .ok (.imul, 1) := by decide +kernel
theorem dX0_fits_19 : decode cX0_fits 19 = .ok (.iload_n 2, 1) := by decide +kernel
theorem dX0_fits_20 : decode cX0_fits 20 = .ok (.iadd, 1) := by decide +kernel
theorem dX0_fits_21 : decode cX0_fits 21 = .ok (.invokestatic 45, 3) := by decide +kernel
theorem dX0_fits_24 : decode cX0_fits 24 = .ok (.istore_n 3, 1) := by decide +kernel
theorem dX0_fits_25 : decode cX0_fits 25 = .ok (.iload_n 3, 1) := by decide +kernel
theorem dX0_fits_26 : decode cX0_fits 26 = .ok (.iconst (-1), 1) := by decide +kernel
theorem dX0_fits_27 : decode cX0_fits 27 = .ok (.if_icmp .eq 24, 3) := by decide +kernel
theorem dX0_fits_30 : decode cX0_fits 30 = .ok (.aload_n 1, 1) := by decide +kernel
theorem dX0_fits_31 : decode cX0_fits 31 = .ok (.getfield 58, 3) := by decide +kernel
theorem dX0_fits_34 : decode cX0_fits 34 = .ok (.aload_n 0, 1) := by decide +kernel
theorem dX0_fits_35 : decode cX0_fits 35 = .ok (.getfield 9, 3) := by decide +kernel
theorem dX0_fits_38 : decode cX0_fits 38 = .ok (.iload_n 2, 1) := by decide +kernel
theorem dX0_fits_39 : decode cX0_fits 39 = .ok (.invokestatic 45, 3) := by decide +kernel
theorem dX0_fits_42 : decode cX0_fits 42 = .ok (.invokestatic 45, 3) := by decide +kernel
theorem dX0_fits_45 : decode cX0_fits 45 = .ok (.iload_n 3, 1) := by decide +kernel
theorem dX0_fits_46 : decode cX0_fits 46 = .ok (.if_icmp .eq 5, 3) := by decide +kernel
theorem dX0_fits_49 : decode cX0_fits 49 = .ok (.iconst 0, 1) := by decide +kernel
theorem dX0_fits_50 : decode cX0_fits 50 = .ok (.ireturn, 1) := by decide +kernel
theorem dX0_fits_51 : decode cX0_fits 51 = .ok (.iinc 2 1, 3) := by decide +kernel
theorem dX0_fits_54 : decode cX0_fits 54 = .ok (.goto (-52), 3) := by decide +kernel
theorem dX0_fits_57 : decode cX0_fits 57 = .ok (.iconst 1, 1) := by decide +kernel
theorem dX0_fits_58 : decode cX0_fits 58 = .ok (.ireturn, 1) := by decide +kernel
theorem dX0_workNumbers_0 : decode cX0_workNumbers 0 = .ok (.aload_n 0, 1) := by decide +kernel
theorem dX0_workNumbers_1 : decode cX0_workNumbers 1 = .ok (.getfield 15, 3) := by decide +kernel
theorem dX0_workNumbers_4 : decode cX0_workNumbers 4 = .ok (.tableswitch 130 0 5 #[40, 50, 60, 70, 94, 112], 40) := by decide +kernel
theorem dX0_workNumbers_44 : decode cX0_workNumbers 44 = .ok (.aload_n 0, 1) := by decide +kernel
theorem dX0_workNumbers_45 : decode cX0_workNumbers 45 = .ok (.lload_n 1, 1) := by decide +kernel
theorem dX0_workNumbers_46 : decode cX0_workNumbers 46 = .ok (.lload_n 3, 1) := by decide +kernel
theorem dX0_workNumbers_47 : decode cX0_workNumbers 47 = .ok (.ladd, 1) := by decide +kernel
theorem dX0_workNumbers_48 : decode cX0_workNumbers 48 = .ok (.invokevirtual 87, 3) := by decide +kernel
theorem dX0_workNumbers_51 : decode cX0_workNumbers 51 = .ok (.goto 83, 3) := by decide +kernel
theorem dX0_workNumbers_54 : decode cX0_workNumbers 54 = .ok (.aload_n 0, 1) := by decide +kernel
theorem dX0_workNumbers_55 : decode cX0_workNumbers 55 = .ok (.lload_n 1, 1) := by decide +kernel
theorem dX0_workNumbers_56 : decode cX0_workNumbers 56 = .ok (.lload_n 3, 1) := by decide +kernel
theorem dX0_workNumbers_57 : decode cX0_workNumbers 57 = .ok (.lsub, 1) := by decide +kernel
theorem dX0_workNumbers_58 : decode cX0_workNumbers 58 = .ok (.invokevirtual 87, 3) := by decide +kernel
theorem dX0_workNumbers_61 : decode cX0_workNumbers 61 = .ok (.goto 73, 3) := by decide +kernel
theorem dX0_workNumbers_64 : decode cX0_workNumbers 64 = .ok (.aload_n 0, 1) := by decide +kernel
theorem dX0_workNumbers_65 : decode cX0_workNumbers 65 = .ok (.lload_n 1, 1) := by decide +kernel
theorem dX0_workNumbers_66 : decode cX0_workNumbers 66 = .ok (.lload_n 3, 1) := by decide +kernel
theorem dX0_workNumbers_67 : decode cX0_workNumbers 67 = .ok (.lmul, 1) := by decide +kernel
theorem dX0_workNumbers_68 : decode cX0_workNumbers 68 = .ok (.invokevirtual 87, 3) := by decide +kernel
theorem dX0_workNumbers_71 : decode cX0_workNumbers 71 = .ok (.goto 63, 3) := by decide +kernel
theorem dX0_workNumbers_74 : decode cX0_workNumbers 74 = .ok (.lload_n 3, 1) := by decide +kernel
theorem dX0_workNumbers_75 : decode cX0_workNumbers 75 = .ok (.lconst 0, 1) := by decide +kernel
theorem dX0_workNumbers_76 : decode cX0_workNumbers 76 = .ok (.lcmp, 1) := by decide +kernel
theorem dX0_workNumbers_77 : decode cX0_workNumbers 77 = .ok (.ifCond .ne 11, 3) := by decide +kernel
theorem dX0_workNumbers_80 : decode cX0_workNumbers 80 = .ok (.aload_n 0, 1) := by decide +kernel
theorem dX0_workNumbers_81 : decode cX0_workNumbers 81 = .ok (.iconst 1, 1) := by decide +kernel
theorem dX0_workNumbers_82 : decode cX0_workNumbers 82 = .ok (.putfield 22, 3) := by decide +kernel
theorem dX0_workNumbers_85 : decode cX0_workNumbers 85 = .ok (.goto 49, 3) := by decide +kernel
theorem dX0_workNumbers_88 : decode cX0_workNumbers 88 = .ok (.aload_n 0, 1) := by decide +kernel
theorem dX0_workNumbers_89 : decode cX0_workNumbers 89 = .ok (.lload_n 1, 1) := by decide +kernel
theorem dX0_workNumbers_90 : decode cX0_workNumbers 90 = .ok (.lload_n 3, 1) := by decide +kernel
theorem dX0_workNumbers_91 : decode cX0_workNumbers 91 = .ok (.ldiv, 1) := by decide +kernel
theorem dX0_workNumbers_92 : decode cX0_workNumbers 92 = .ok (.invokevirtual 87, 3) := by decide +kernel
theorem dX0_workNumbers_95 : decode cX0_workNumbers 95 = .ok (.goto 39, 3) := by decide +kernel
theorem dX0_workNumbers_98 : decode cX0_workNumbers 98 = .ok (.aload_n 0, 1) := by decide +kernel
theorem dX0_workNumbers_99 : decode cX0_workNumbers 99 = .ok (.lload_n 1, 1) := by decide +kernel
theorem dX0_workNumbers_100 : decode cX0_workNumbers 100 = .ok (.lload_n 3, 1) := by decide +kernel
theorem dX0_workNumbers_101 : decode cX0_workNumbers 101 = .ok (.lcmp, 1) := by decide +kernel
theorem dX0_workNumbers_102 : decode cX0_workNumbers 102 = .ok (.ifCond .ne 7, 3) := by decide +kernel
theorem dX0_workNumbers_105 : decode cX0_workNumbers 105 = .ok (.iconst 1, 1) := by decide +kernel
theorem dX0_workNumbers_106 : decode cX0_workNumbers 106 = .ok (.goto 4, 3) := by decide +kernel
theorem dX0_workNumbers_109 : decode cX0_workNumbers 109 = .ok (.iconst 0, 1) := by decide +kernel
theorem dX0_workNumbers_110 : decode cX0_workNumbers 110 = .ok (.invokevirtual 91, 3) := by decide +kernel
theorem dX0_workNumbers_113 : decode cX0_workNumbers 113 = .ok (.goto 21, 3) := by decide +kernel
theorem dX0_workNumbers_116 : decode cX0_workNumbers 116 = .ok (.aload_n 0, 1) := by decide +kernel
theorem dX0_workNumbers_117 : decode cX0_workNumbers 117 = .ok (.lload_n 1, 1) := by decide +kernel
theorem dX0_workNumbers_118 : decode cX0_workNumbers 118 = .ok (.lload_n 3, 1) := by decide +kernel
theorem dX0_workNumbers_119 : decode cX0_workNumbers 119 = .ok (.lcmp, 1) := by decide +kernel
theorem dX0_workNumbers_120 : decode cX0_workNumbers 120 = .ok (.ifCond .ge 7, 3) := by decide +kernel
theorem dX0_workNumbers_123 : decode cX0_workNumbers 123 = .ok (.iconst 1, 1) := by decide +kernel
theorem dX0_workNumbers_124 : decode cX0_workNumbers 124 = .ok (.goto 4, 3) := by decide +kernel
theorem dX0_workNumbers_127 : decode cX0_workNumbers 127 = .ok (.iconst 0, 1) := by decide +kernel
theorem dX0_workNumbers_128 : decode cX0_workNumbers 128 = .ok (.invokevirtual 91, 3) := by decide +kernel
theorem dX0_workNumbers_131 : decode cX0_workNumbers 131 = .ok (.goto 3, 3) := by decide +kernel
theorem dX0_workNumbers_134 : decode cX0_workNumbers 134 = .ok (.return_, 1) := by decide +kernel
theorem dX0_workBytes_0 : decode cX0_workBytes 0 = .ok (.lload_n 1, 1) := by decide +kernel
theorem dX0_workBytes_1 : decode cX0_workBytes 1 = .ok (.invokestatic 67, 3) := by decide +kernel
theorem dX0_workBytes_4 : decode cX0_workBytes 4 = .ok (.istore 5, 2) := by decide +kernel
theorem dX0_workBytes_6 : decode cX0_workBytes 6 = .ok (.aload_n 0, 1) := by decide +kernel
theorem dX0_workBytes_7 : decode cX0_workBytes 7 = .ok (.getfield 15, 3) := by decide +kernel
theorem dX0_workBytes_10 : decode cX0_workBytes 10 = .ok (.tableswitch 135 7 11 #[34, 67, 78, 135, 117], 34) := by decide +kernel
theorem dX0_workBytes_44 : decode cX0_workBytes 44 = .ok (.iload 5, 2) := by decide +kernel
theorem dX0_workBytes_46 : decode cX0_workBytes 46 = .ok (.lload_n 3, 1) := by decide +kernel
theorem dX0_workBytes_47 : decode cX0_workBytes 47 = .ok (.invokestatic 67, 3) := by decide +kernel
theorem dX0_workBytes_50 : decode cX0_workBytes 50 = .ok (.iadd, 1) := by decide +kernel
theorem dX0_workBytes_51 : decode cX0_workBytes 51 = .ok (.bipush 7, 2) := by decide +kernel
theorem dX0_workBytes_53 : decode cX0_workBytes 53 = .ok (.if_icmp .le 11, 3) := by decide +kernel
theorem dX0_workBytes_56 : decode cX0_workBytes 56 = .ok (.aload_n 0, 1) := by decide +kernel
theorem dX0_workBytes_57 : decode cX0_workBytes 57 = .ok (.iconst 1, 1) := by decide +kernel
theorem dX0_workBytes_58 : decode cX0_workBytes 58 = .ok (.putfield 22, 3) := by decide +kernel
theorem dX0_workBytes_61 : decode cX0_workBytes 61 = .ok (.goto 84, 3) := by decide +kernel
theorem dX0_workBytes_64 : decode cX0_workBytes 64 = .ok (.aload_n 0, 1) := by decide +kernel
theorem dX0_workBytes_65 : decode cX0_workBytes 65 = .ok (.iconst 3, 1) := by decide +kernel
theorem dX0_workBytes_66 : decode cX0_workBytes 66 = .ok (.lload_n 1, 1) := by decide +kernel
theorem dX0_workBytes_67 : decode cX0_workBytes 67 = .ok (.lload_n 3, 1) := by decide +kernel
theorem dX0_workBytes_68 : decode cX0_workBytes 68 = .ok (.invokestatic 95, 3) := by decide +kernel
theorem dX0_workBytes_71 : decode cX0_workBytes 71 = .ok (.invokevirtual 99, 3) := by decide +kernel
theorem dX0_workBytes_74 : decode cX0_workBytes 74 = .ok (.goto 71, 3) := by decide +kernel
theorem dX0_workBytes_77 : decode cX0_workBytes 77 = .ok (.aload_n 0, 1) := by decide +kernel
theorem dX0_workBytes_78 : decode cX0_workBytes 78 = .ok (.iconst 0, 1) := by decide +kernel
theorem dX0_workBytes_79 : decode cX0_workBytes 79 = .ok (.iload 5, 2) := by decide +kernel
theorem dX0_workBytes_81 : decode cX0_workBytes 81 = .ok (.i2l, 1) := by decide +kernel
theorem dX0_workBytes_82 : decode cX0_workBytes 82 = .ok (.invokevirtual 99, 3) := by decide +kernel
theorem dX0_workBytes_85 : decode cX0_workBytes 85 = .ok (.goto 60, 3) := by decide +kernel
theorem dX0_workBytes_88 : decode cX0_workBytes 88 = .ok (.lload_n 3, 1) := by decide +kernel
theorem dX0_workBytes_89 : decode cX0_workBytes 89 = .ok (.lconst 0, 1) := by decide +kernel
theorem dX0_workBytes_90 : decode cX0_workBytes 90 = .ok (.lcmp, 1) := by decide +kernel
theorem dX0_workBytes_91 : decode cX0_workBytes 91 = .ok (.ifCond .lt 11, 3) := by decide +kernel
theorem dX0_workBytes_94 : decode cX0_workBytes 94 = .ok (.lload_n 3, 1) := by decide +kernel
theorem dX0_workBytes_95 : decode cX0_workBytes 95 = .ok (.iload 5, 2) := by decide +kernel
theorem dX0_workBytes_97 : decode cX0_workBytes 97 = .ok (.i2l, 1) := by decide +kernel
theorem dX0_workBytes_98 : decode cX0_workBytes 98 = .ok (.lcmp, 1) := by decide +kernel
theorem dX0_workBytes_99 : decode cX0_workBytes 99 = .ok (.ifCond .lt 11, 3) := by decide +kernel
theorem dX0_workBytes_102 : decode cX0_workBytes 102 = .ok (.aload_n 0, 1) := by decide +kernel
theorem dX0_workBytes_103 : decode cX0_workBytes 103 = .ok (.iconst 1, 1) := by decide +kernel
theorem dX0_workBytes_104 : decode cX0_workBytes 104 = .ok (.putfield 22, 3) := by decide +kernel
theorem dX0_workBytes_107 : decode cX0_workBytes 107 = .ok (.goto 38, 3) := by decide +kernel
theorem dX0_workBytes_110 : decode cX0_workBytes 110 = .ok (.aload_n 0, 1) := by decide +kernel
theorem dX0_workBytes_111 : decode cX0_workBytes 111 = .ok (.iconst 0, 1) := by decide +kernel
theorem dX0_workBytes_112 : decode cX0_workBytes 112 = .ok (.lload_n 1, 1) := by decide +kernel
theorem dX0_workBytes_113 : decode cX0_workBytes 113 = .ok (.iload 5, 2) := by decide +kernel
theorem dX0_workBytes_115 : decode cX0_workBytes 115 = .ok (.lload_n 3, 1) := by decide +kernel
theorem dX0_workBytes_116 : decode cX0_workBytes 116 = .ok (.l2i, 1) := by decide +kernel
theorem dX0_workBytes_117 : decode cX0_workBytes 117 = .ok (.invokestatic 103, 3) := by decide +kernel
theorem dX0_workBytes_120 : decode cX0_workBytes 120 = .ok (.i2l, 1) := by decide +kernel
theorem dX0_workBytes_121 : decode cX0_workBytes 121 = .ok (.invokevirtual 99, 3) := by decide +kernel
theorem dX0_workBytes_124 : decode cX0_workBytes 124 = .ok (.goto 21, 3) := by decide +kernel
theorem dX0_workBytes_127 : decode cX0_workBytes 127 = .ok (.aload_n 0, 1) := by decide +kernel
theorem dX0_workBytes_128 : decode cX0_workBytes 128 = .ok (.lload_n 1, 1) := by decide +kernel
theorem dX0_workBytes_129 : decode cX0_workBytes 129 = .ok (.lload_n 3, 1) := by decide +kernel
theorem dX0_workBytes_130 : decode cX0_workBytes 130 = .ok (.lcmp, 1) := by decide +kernel
theorem dX0_workBytes_131 : decode cX0_workBytes 131 = .ok (.ifCond .ne 7, 3) := by decide +kernel
theorem dX0_workBytes_134 : decode cX0_workBytes 134 = .ok (.iconst 1, 1) := by decide +kernel
theorem dX0_workBytes_135 : decode cX0_workBytes 135 = .ok (.goto 4, 3) := by decide +kernel
theorem dX0_workBytes_138 : decode cX0_workBytes 138 = .ok (.iconst 0, 1) := by decide +kernel
theorem dX0_workBytes_139 : decode cX0_workBytes 139 = .ok (.invokevirtual 91, 3) := by decide +kernel
theorem dX0_workBytes_142 : decode cX0_workBytes 142 = .ok (.goto 3, 3) := by decide +kernel
theorem dX0_workBytes_145 : decode cX0_workBytes 145 = .ok (.return_, 1) := by decide +kernel
theorem dX0_give_0 : decode cX0_give 0 = .ok (.aload_n 0, 1) := by decide +kernel
theorem dX0_give_1 : decode cX0_give 1 = .ok (.iload_n 1, 1) := by decide +kernel
theorem dX0_give_2 : decode cX0_give 2 = .ok (.putfield 29, 3) := by decide +kernel
theorem dX0_give_5 : decode cX0_give 5 = .ok (.aload_n 0, 1) := by decide +kernel
theorem dX0_give_6 : decode cX0_give 6 = .ok (.lload_n 2, 1) := by decide +kernel
theorem dX0_give_7 : decode cX0_give 7 = .ok (.putfield 32, 3) := by decide +kernel
theorem dX0_give_10 : decode cX0_give 10 = .ok (.return_, 1) := by decide +kernel
theorem dX0_giveTruth_0 : decode cX0_giveTruth 0 = .ok (.aload_n 0, 1) := by decide +kernel
theorem dX0_giveTruth_1 : decode cX0_giveTruth 1 = .ok (.iconst 1, 1) := by decide +kernel
theorem dX0_giveTruth_2 : decode cX0_giveTruth 2 = .ok (.iload_n 1, 1) := by decide +kernel
theorem dX0_giveTruth_3 : decode cX0_giveTruth 3 = .ok (.ifCond .eq 7, 3) := by decide +kernel
theorem dX0_giveTruth_6 : decode cX0_giveTruth 6 = .ok (.lconst 1, 1) := by decide +kernel
theorem dX0_giveTruth_7 : decode cX0_giveTruth 7 = .ok (.goto 4, 3) := by decide +kernel
theorem dX0_giveTruth_10 : decode cX0_giveTruth 10 = .ok (.lconst 0, 1) := by decide +kernel
theorem dX0_giveTruth_11 : decode cX0_giveTruth 11 = .ok (.invokevirtual 99, 3) := by decide +kernel
theorem dX0_giveTruth_14 : decode cX0_giveTruth 14 = .ok (.return_, 1) := by decide +kernel
theorem dX0_giveNumber_0 : decode cX0_giveNumber 0 = .ok (.lload_n 1, 1) := by decide +kernel
theorem dX0_giveNumber_1 : decode cX0_giveNumber 1 = .ok (.ldc2_w 107, 3) := by decide +kernel
theorem dX0_giveNumber_4 : decode cX0_giveNumber 4 = .ok (.lcmp, 1) := by decide +kernel
theorem dX0_giveNumber_5 : decode cX0_giveNumber 5 = .ok (.ifCond .lt 11, 3) := by decide +kernel
theorem dX0_giveNumber_8 : decode cX0_giveNumber 8 = .ok (.lload_n 1, 1) := by decide +kernel
theorem dX0_giveNumber_9 : decode cX0_giveNumber 9 = .ok (.ldc2_w 109, 3) := by decide +kernel
theorem dX0_giveNumber_12 : decode cX0_giveNumber 12 = .ok (.lcmp, 1) := by decide +kernel
theorem dX0_giveNumber_13 : decode cX0_giveNumber 13 = .ok (.ifCond .le 11, 3) := by decide +kernel
theorem dX0_giveNumber_16 : decode cX0_giveNumber 16 = .ok (.aload_n 0, 1) := by decide +kernel
theorem dX0_giveNumber_17 : decode cX0_giveNumber 17 = .ok (.iconst 1, 1) := by decide +kernel
theorem dX0_giveNumber_18 : decode cX0_giveNumber 18 = .ok (.putfield 22, 3) := by decide +kernel
theorem dX0_giveNumber_21 : decode cX0_giveNumber 21 = .ok (.goto 9, 3) := by decide +kernel
theorem dX0_giveNumber_24 : decode cX0_giveNumber 24 = .ok (.aload_n 0, 1) := by decide +kernel
theorem dX0_giveNumber_25 : decode cX0_giveNumber 25 = .ok (.iconst 0, 1) := by decide +kernel
theorem dX0_giveNumber_26 : decode cX0_giveNumber 26 = .ok (.lload_n 1, 1) := by decide +kernel
theorem dX0_giveNumber_27 : decode cX0_giveNumber 27 = .ok (.invokevirtual 99, 3) := by decide +kernel
theorem dX0_giveNumber_30 : decode cX0_giveNumber 30 = .ok (.return_, 1) := by decide +kernel
theorem dX1_init_0 : decode cX1_init 0 = .ok (.aload_n 0, 1) := by decide +kernel
theorem dX1_init_1 : decode cX1_init 1 = .ok (.invokespecial 3, 3) := by decide +kernel
theorem dX1_init_4 : decode cX1_init 4 = .ok (.aload_n 0, 1) := by decide +kernel
theorem dX1_init_5 : decode cX1_init 5 = .ok (.sipush 200, 3) := by decide +kernel
theorem dX1_init_8 : decode cX1_init 8 = .ok (.newarray .int, 2) := by decide +kernel
theorem dX1_init_10 : decode cX1_init 10 = .ok (.putfield 9, 3) := by decide +kernel
theorem dX1_init_13 : decode cX1_init 13 = .ok (.aload_n 0, 1) := by decide +kernel
theorem dX1_init_14 : decode cX1_init 14 = .ok (.sipush 200, 3) := by decide +kernel
theorem dX1_init_17 : decode cX1_init 17 = .ok (.newarray .int, 2) := by decide +kernel
theorem dX1_init_19 : decode cX1_init 19 = .ok (.putfield 15, 3) := by decide +kernel
theorem dX1_init_22 : decode cX1_init 22 = .ok (.aload_n 0, 1) := by decide +kernel
theorem dX1_init_23 : decode cX1_init 23 = .ok (.sipush 200, 3) := by decide +kernel
theorem dX1_init_26 : decode cX1_init 26 = .ok (.newarray .int, 2) := by decide +kernel
theorem dX1_init_28 : decode cX1_init 28 = .ok (.putfield 18, 3) := by decide +kernel
theorem dX1_init_31 : decode cX1_init 31 = .ok (.aload_n 0, 1) := by decide +kernel
theorem dX1_init_32 : decode cX1_init 32 = .ok (.iconst 0, 1) := by decide +kernel
theorem dX1_init_33 : decode cX1_init 33 = .ok (.putfield 21, 3) := by decide +kernel
theorem dX1_init_36 : decode cX1_init 36 = .ok (.return_, 1) := by decide +kernel
theorem dX1_hasRoom_0 : decode cX1_hasRoom 0 = .ok (.aload_n 0, 1) := by decide +kernel
theorem dX1_hasRoom_1 : decode cX1_hasRoom 1 = .ok (.getfield 21, 3) := by decide +kernel
theorem dX1_hasRoom_4 : decode cX1_hasRoom 4 = .ok (.sipush 200, 3) := by decide +kernel
theorem dX1_hasRoom_7 : decode cX1_hasRoom 7 = .ok (.if_icmp .ge 7, 3) := by decide +kernel
theorem dX1_hasRoom_10 : decode cX1_hasRoom 10 = .ok (.iconst 1, 1) := by decide +kernel
theorem dX1_hasRoom_11 : decode cX1_hasRoom 11 = .ok (.goto 4, 3) := by decide +kernel
theorem dX1_hasRoom_14 : decode cX1_hasRoom 14 = .ok (.iconst 0, 1) := by decide +kernel
theorem dX1_hasRoom_15 : decode cX1_hasRoom 15 = .ok (.ireturn, 1) := by decide +kernel
theorem dX1_add_0 : decode cX1_add 0 = .ok (.aload_n 0, 1) := by decide +kernel
theorem dX1_add_1 : decode cX1_add 1 = .ok (.getfield 21, 3) := by decide +kernel
theorem dX1_add_4 : decode cX1_add 4 = .ok (.sipush 200, 3) := by decide +kernel
theorem dX1_add_7 : decode cX1_add 7 = .ok (.if_icmp .ge 43, 3) := by decide +kernel
theorem dX1_add_10 : decode cX1_add 10 = .ok (.aload_n 0, 1) := by decide +kernel
theorem dX1_add_11 : decode cX1_add 11 = .ok (.getfield 9, 3) := by decide +kernel
theorem dX1_add_14 : decode cX1_add 14 = .ok (.aload_n 0, 1) := by decide +kernel
theorem dX1_add_15 : decode cX1_add 15 = .ok (.getfield 21, 3) := by decide +kernel
theorem dX1_add_18 : decode cX1_add 18 = .ok (.iload_n 1, 1) := by decide +kernel
theorem dX1_add_19 : decode cX1_add 19 = .ok (.iastore, 1) := by decide +kernel
theorem dX1_add_20 : decode cX1_add 20 = .ok (.aload_n 0, 1) := by decide +kernel
theorem dX1_add_21 : decode cX1_add 21 = .ok (.getfield 15, 3) := by decide +kernel
theorem dX1_add_24 : decode cX1_add 24 = .ok (.aload_n 0, 1) := by decide +kernel
theorem dX1_add_25 : decode cX1_add 25 = .ok (.getfield 21, 3) := by decide +kernel
theorem dX1_add_28 : decode cX1_add 28 = .ok (.iload_n 2, 1) := by decide +kernel
theorem dX1_add_29 : decode cX1_add 29 = .ok (.iastore, 1) := by decide +kernel
theorem dX1_add_30 : decode cX1_add 30 = .ok (.aload_n 0, 1) := by decide +kernel
theorem dX1_add_31 : decode cX1_add 31 = .ok (.getfield 18, 3) := by decide +kernel
theorem dX1_add_34 : decode cX1_add 34 = .ok (.aload_n 0, 1) := by decide +kernel
theorem dX1_add_35 : decode cX1_add 35 = .ok (.getfield 21, 3) := by decide +kernel
theorem dX1_add_38 : decode cX1_add 38 = .ok (.iload_n 3, 1) := by decide +kernel
theorem dX1_add_39 : decode cX1_add 39 = .ok (.iastore, 1) := by decide +kernel
theorem dX1_add_40 : decode cX1_add 40 = .ok (.aload_n 0, 1) := by decide +kernel
theorem dX1_add_41 : decode cX1_add 41 = .ok (.dup, 1) := by decide +kernel
theorem dX1_add_42 : decode cX1_add 42 = .ok (.getfield 21, 3) := by decide +kernel
theorem dX1_add_45 : decode cX1_add 45 = .ok (.iconst 1, 1) := by decide +kernel
theorem dX1_add_46 : decode cX1_add 46 = .ok (.iadd, 1) := by decide +kernel
theorem dX1_add_47 : decode cX1_add 47 = .ok (.putfield 21, 3) := by decide +kernel
theorem dX1_add_50 : decode cX1_add 50 = .ok (.return_, 1) := by decide +kernel
theorem dX1_drop_0 : decode cX1_drop 0 = .ok (.aload_n 0, 1) := by decide +kernel
theorem dX1_drop_1 : decode cX1_drop 1 = .ok (.getfield 21, 3) := by decide +kernel
theorem dX1_drop_4 : decode cX1_drop 4 = .ok (.ifCond .le 13, 3) := by decide +kernel
theorem dX1_drop_7 : decode cX1_drop 7 = .ok (.aload_n 0, 1) := by decide +kernel
theorem dX1_drop_8 : decode cX1_drop 8 = .ok (.dup, 1) := by decide +kernel
theorem dX1_drop_9 : decode cX1_drop 9 = .ok (.getfield 21, 3) := by decide +kernel
theorem dX1_drop_12 : decode cX1_drop 12 = .ok (.iconst 1, 1) := by decide +kernel
theorem dX1_drop_13 : decode cX1_drop 13 = .ok (.isub, 1) := by decide +kernel
theorem dX1_drop_14 : decode cX1_drop 14 = .ok (.putfield 21, 3) := by decide +kernel
theorem dX1_drop_17 : decode cX1_drop 17 = .ok (.return_, 1) := by decide +kernel
theorem dX1_latestKind_0 : decode cX1_latestKind 0 = .ok (.aload_n 0, 1) := by decide +kernel
theorem dX1_latestKind_1 : decode cX1_latestKind 1 = .ok (.getfield 9, 3) := by decide +kernel
theorem dX1_latestKind_4 : decode cX1_latestKind 4 = .ok (.aload_n 0, 1) := by decide +kernel
theorem dX1_latestKind_5 : decode cX1_latestKind 5 = .ok (.getfield 21, 3) := by decide +kernel
theorem dX1_latestKind_8 : decode cX1_latestKind 8 = .ok (.iconst 1, 1) := by decide +kernel
theorem dX1_latestKind_9 : decode cX1_latestKind 9 = .ok (.isub, 1) := by decide +kernel
theorem dX1_latestKind_10 : decode cX1_latestKind 10 = .ok (.invokestatic 25, 3) := by decide +kernel
theorem dX1_latestKind_13 : decode cX1_latestKind 13 = .ok (.ireturn, 1) := by decide +kernel
theorem dX1_latestPart_0 : decode cX1_latestPart 0 = .ok (.aload_n 0, 1) := by decide +kernel
theorem dX1_latestPart_1 : decode cX1_latestPart 1 = .ok (.getfield 15, 3) := by decide +kernel
theorem dX1_latestPart_4 : decode cX1_latestPart 4 = .ok (.aload_n 0, 1) := by decide +kernel
theorem dX1_latestPart_5 : decode cX1_latestPart 5 = .ok (.getfield 21, 3) := by decide +kernel
theorem dX1_latestPart_8 : decode cX1_latestPart 8 = .ok (.iconst 1, 1) := by decide +kernel
theorem dX1_latestPart_9 : decode cX1_latestPart 9 = .ok (.isub, 1) := by decide +kernel
theorem dX1_latestPart_10 : decode cX1_latestPart 10 = .ok (.invokestatic 25, 3) := by decide +kernel
theorem dX1_latestPart_13 : decode cX1_latestPart 13 = .ok (.ireturn, 1) := by decide +kernel
theorem dX1_latestEnvironment_0 : decode cX1_latestEnvironment 0 = .ok (.aload_n 0, 1) := by decide +kernel
theorem dX1_latestEnvironment_1 : decode cX1_latestEnvironment 1 = .ok (.getfield 18, 3) := by decide +kernel
theorem dX1_latestEnvironment_4 : decode cX1_latestEnvironment 4 = .ok (.aload_n 0, 1) := by decide +kernel
theorem dX1_latestEnvironment_5 : decode cX1_latestEnvironment 5 = .ok (.getfield 21, 3) := by decide +kernel
theorem dX1_latestEnvironment_8 : decode cX1_latestEnvironment 8 = .ok (.iconst 1, 1) := by decide +kernel
theorem dX1_latestEnvironment_9 : decode cX1_latestEnvironment 9 = .ok (.isub, 1) := by decide +kernel
theorem dX1_latestEnvironment_10 : decode cX1_latestEnvironment 10 = .ok (.invokestatic 25, 3) := by decide +kernel
theorem dX1_latestEnvironment_13 : decode cX1_latestEnvironment 13 = .ok (.ireturn, 1) := by decide +kernel
theorem dX2_of_0 : decode cX2_of 0 = .ok (.iload_n 0, 1) := by decide +kernel
theorem dX2_of_1 : decode cX2_of 1 = .ok (.i2l, 1) := by decide +kernel
theorem dX2_of_2 : decode cX2_of 2 = .ok (.bipush 56, 2) := by decide +kernel
theorem dX2_of_4 : decode cX2_of 4 = .ok (.lshl, 1) := by decide +kernel
theorem dX2_of_5 : decode cX2_of 5 = .ok (.lload_n 1, 1) := by decide +kernel
theorem dX2_of_6 : decode cX2_of 6 = .ok (.lor, 1) := by decide +kernel
theorem dX2_of_7 : decode cX2_of 7 = .ok (.lreturn, 1) := by decide +kernel
theorem dX2_length_0 : decode cX2_length 0 = .ok (.lload_n 0, 1) := by decide +kernel
theorem dX2_length_1 : decode cX2_length 1 = .ok (.bipush 56, 2) := by decide +kernel
theorem dX2_length_3 : decode cX2_length 3 = .ok (.lushr, 1) := by decide +kernel
theorem dX2_length_4 : decode cX2_length 4 = .ok (.l2i, 1) := by decide +kernel
theorem dX2_length_5 : decode cX2_length 5 = .ok (.ireturn, 1) := by decide +kernel
theorem dX2_byteAt_0 : decode cX2_byteAt 0 = .ok (.lload_n 0, 1) := by decide +kernel
theorem dX2_byteAt_1 : decode cX2_byteAt 1 = .ok (.bipush 8, 2) := by decide +kernel
theorem dX2_byteAt_3 : decode cX2_byteAt 3 = .ok (.iload_n 2, 1) := by decide +kernel
theorem dX2_byteAt_4 : decode cX2_byteAt 4 = .ok (.iconst 1, 1) := by decide +kernel
theorem dX2_byteAt_5 : decode cX2_byteAt 5 = .ok (.isub, 1) := by decide +kernel
theorem dX2_byteAt_6 : decode cX2_byteAt 6 = .ok (.iload_n 3, 1) := by decide +kernel
theorem dX2_byteAt_7 : decode cX2_byteAt 7 = .ok (.isub, 1) := by decide +kernel
theorem dX2_byteAt_8 : decode cX2_byteAt 8 = .ok (.imul, 1) := by decide +kernel
theorem dX2_byteAt_9 : decode cX2_byteAt 9 = .ok (.lushr, 1) := by decide +kernel
theorem dX2_byteAt_10 : decode cX2_byteAt 10 = .ok (.l2i, 1) := by decide +kernel
theorem dX2_byteAt_11 : decode cX2_byteAt 11 = .ok (.sipush 255, 3) := by decide +kernel
theorem dX2_byteAt_14 : decode cX2_byteAt 14 = .ok (.iand, 1) := by decide +kernel
theorem dX2_byteAt_15 : decode cX2_byteAt 15 = .ok (.ireturn, 1) := by decide +kernel
theorem dX2_joined_0 : decode cX2_joined 0 = .ok (.lload_n 2, 1) := by decide +kernel
theorem dX2_joined_1 : decode cX2_joined 1 = .ok (.invokestatic 11, 3) := by decide +kernel
theorem dX2_joined_4 : decode cX2_joined 4 = .ok (.istore 4, 2) := by decide +kernel
theorem dX2_joined_6 : decode cX2_joined 6 = .ok (.lload_n 0, 1) := by decide +kernel
theorem dX2_joined_7 : decode cX2_joined 7 = .ok (.ldc2_w 15, 3) := by decide +kernel
theorem dX2_joined_10 : decode cX2_joined 10 = .ok (.land, 1) := by decide +kernel
theorem dX2_joined_11 : decode cX2_joined 11 = .ok (.bipush 8, 2) := by decide +kernel
theorem dX2_joined_13 : decode cX2_joined 13 = .ok (.iload 4, 2) := by decide +kernel
theorem dX2_joined_15 : decode cX2_joined 15 = .ok (.imul, 1) := by decide +kernel
theorem dX2_joined_16 : decode cX2_joined 16 = .ok (.lshl, 1) := by decide +kernel
theorem dX2_joined_17 : decode cX2_joined 17 = .ok (.lload_n 2, 1) := by decide +kernel
theorem dX2_joined_18 : decode cX2_joined 18 = .ok (.ldc2_w 15, 3) := by decide +kernel
theorem dX2_joined_21 : decode cX2_joined 21 = .ok (.land, 1) := by decide +kernel
theorem dX2_joined_22 : decode cX2_joined 22 = .ok (.lor, 1) := by decide +kernel
theorem dX2_joined_23 : decode cX2_joined 23 = .ok (.lstore 5, 2) := by decide +kernel
theorem dX2_joined_25 : decode cX2_joined 25 = .ok (.lload_n 0, 1) := by decide +kernel
theorem dX2_joined_26 : decode cX2_joined 26 = .ok (.invokestatic 11, 3) := by decide +kernel
theorem dX2_joined_29 : decode cX2_joined 29 = .ok (.iload 4, 2) := by decide +kernel
theorem dX2_joined_31 : decode cX2_joined 31 = .ok (.iadd, 1) := by decide +kernel
theorem dX2_joined_32 : decode cX2_joined 32 = .ok (.lload 5, 2) := by decide +kernel
theorem dX2_joined_34 : decode cX2_joined 34 = .ok (.invokestatic 17, 3) := by decide +kernel
theorem dX2_joined_37 : decode cX2_joined 37 = .ok (.lreturn, 1) := by decide +kernel
theorem dX3_init_0 : decode cX3_init 0 = .ok (.aload_n 0, 1) := by decide +kernel
theorem dX3_init_1 : decode cX3_init 1 = .ok (.invokespecial 3, 3) := by decide +kernel
theorem dX3_init_4 : decode cX3_init 4 = .ok (.aload_n 0, 1) := by decide +kernel
theorem dX3_init_5 : decode cX3_init 5 = .ok (.bipush 60, 2) := by decide +kernel
theorem dX3_init_7 : decode cX3_init 7 = .ok (.newarray .int, 2) := by decide +kernel
theorem dX3_init_9 : decode cX3_init 9 = .ok (.putfield 9, 3) := by decide +kernel
theorem dX3_init_12 : decode cX3_init 12 = .ok (.aload_n 0, 1) := by decide +kernel
theorem dX3_init_13 : decode cX3_init 13 = .ok (.bipush 60, 2) := by decide +kernel
theorem dX3_init_15 : decode cX3_init 15 = .ok (.newarray .int, 2) := by decide +kernel
theorem dX3_init_17 : decode cX3_init 17 = .ok (.putfield 15, 3) := by decide +kernel
theorem dX3_init_20 : decode cX3_init 20 = .ok (.aload_n 0, 1) := by decide +kernel
theorem dX3_init_21 : decode cX3_init 21 = .ok (.bipush 60, 2) := by decide +kernel
theorem dX3_init_23 : decode cX3_init 23 = .ok (.newarray .int, 2) := by decide +kernel
theorem dX3_init_25 : decode cX3_init 25 = .ok (.putfield 18, 3) := by decide +kernel
theorem dX3_init_28 : decode cX3_init 28 = .ok (.aload_n 0, 1) := by decide +kernel
theorem dX3_init_29 : decode cX3_init 29 = .ok (.bipush 60, 2) := by decide +kernel
theorem dX3_init_31 : decode cX3_init 31 = .ok (.newarray .long, 2) := by decide +kernel
theorem dX3_init_33 : decode cX3_init 33 = .ok (.putfield 21, 3) := by decide +kernel
theorem dX3_init_36 : decode cX3_init 36 = .ok (.aload_n 0, 1) := by decide +kernel
theorem dX3_init_37 : decode cX3_init 37 = .ok (.iconst 0, 1) := by decide +kernel
theorem dX3_init_38 : decode cX3_init 38 = .ok (.putfield 25, 3) := by decide +kernel
theorem dX3_init_41 : decode cX3_init 41 = .ok (.aload_n 0, 1) := by decide +kernel
theorem dX3_init_42 : decode cX3_init 42 = .ok (.iconst 0, 1) := by decide +kernel
theorem dX3_init_43 : decode cX3_init 43 = .ok (.putfield 29, 3) := by decide +kernel
theorem dX3_init_46 : decode cX3_init 46 = .ok (.return_, 1) := by decide +kernel
theorem dX3_fill_0 : decode cX3_fill 0 = .ok (.aload_n 1, 1) := by decide +kernel
theorem dX3_fill_1 : decode cX3_fill 1 = .ok (.invokevirtual 32, 3) := by decide +kernel
theorem dX3_fill_4 : decode cX3_fill 4 = .ok (.aload_n 0, 1) := by decide +kernel
theorem dX3_fill_5 : decode cX3_fill 5 = .ok (.iconst 0, 1) := by decide +kernel
theorem dX3_fill_6 : decode cX3_fill 6 = .ok (.putfield 25, 3) := by decide +kernel
theorem dX3_fill_9 : decode cX3_fill 9 = .ok (.aload_n 0, 1) := by decide +kernel
theorem dX3_fill_10 : decode cX3_fill 10 = .ok (.aload_n 1, 1) := by decide +kernel
theorem dX3_fill_11 : decode cX3_fill 11 = .ok (.invokevirtual 37, 3) := by decide +kernel
theorem dX3_fill_14 : decode cX3_fill 14 = .ok (.putfield 29, 3) := by decide +kernel
theorem dX3_fill_17 : decode cX3_fill 17 = .ok (.aload_n 0, 1) := by decide +kernel
theorem dX3_fill_18 : decode cX3_fill 18 = .ok (.aload_n 1, 1) := by decide +kernel
theorem dX3_fill_19 : decode cX3_fill 19 = .ok (.iconst 0, 1) := by decide +kernel
theorem dX3_fill_20 : decode cX3_fill 20 = .ok (.iconst 0, 1) := by decide +kernel
theorem dX3_fill_21 : decode cX3_fill 21 = .ok (.invokevirtual 41, 3) := by decide +kernel
theorem dX3_fill_24 : decode cX3_fill 24 = .ok (.pop, 1) := by decide +kernel
theorem dX3_fill_25 : decode cX3_fill 25 = .ok (.aload_n 1, 1) := by decide +kernel
theorem dX3_fill_26 : decode cX3_fill 26 = .ok (.invokevirtual 45, 3) := by decide +kernel
theorem dX3_fill_29 : decode cX3_fill 29 = .ok (.return_, 1) := by decide +kernel
theorem dX3_add_0 : decode cX3_add 0 = .ok (.aload_n 0, 1) := by decide +kernel
theorem dX3_add_1 : decode cX3_add 1 = .ok (.getfield 25, 3) := by decide +kernel
theorem dX3_add_4 : decode cX3_add 4 = .ok (.bipush 60, 2) := by decide +kernel
theorem dX3_add_6 : decode cX3_add 6 = .ok (.if_icmp .lt 5, 3) := by decide +kernel
theorem dX3_add_9 : decode cX3_add 9 = .ok (.iconst (-1), 1) := by decide +kernel
theorem dX3_add_10 : decode cX3_add 10 = .ok (.ireturn, 1) := by decide +kernel
theorem dX3_add_11 : decode cX3_add 11 = .ok (.aload_n 0, 1) := by decide +kernel
theorem dX3_add_12 : decode cX3_add 12 = .ok (.getfield 9, 3) := by decide +kernel
theorem dX3_add_15 : decode cX3_add 15 = .ok (.aload_n 0, 1) := by decide +kernel
theorem dX3_add_16 : decode cX3_add 16 = .ok (.getfield 25, 3) := by decide +kernel
theorem dX3_add_19 : decode cX3_add 19 = .ok (.iload_n 1, 1) := by decide +kernel
theorem dX3_add_20 : decode cX3_add 20 = .ok (.iastore, 1) := by decide +kernel
theorem dX3_add_21 : decode cX3_add 21 = .ok (.aload_n 0, 1) := by decide +kernel
theorem dX3_add_22 : decode cX3_add 22 = .ok (.getfield 15, 3) := by decide +kernel
theorem dX3_add_25 : decode cX3_add 25 = .ok (.aload_n 0, 1) := by decide +kernel
theorem dX3_add_26 : decode cX3_add 26 = .ok (.getfield 25, 3) := by decide +kernel
theorem dX3_add_29 : decode cX3_add 29 = .ok (.iconst (-1), 1) := by decide +kernel
theorem dX3_add_30 : decode cX3_add 30 = .ok (.iastore, 1) := by decide +kernel
theorem dX3_add_31 : decode cX3_add 31 = .ok (.aload_n 0, 1) := by decide +kernel
theorem dX3_add_32 : decode cX3_add 32 = .ok (.getfield 18, 3) := by decide +kernel
theorem dX3_add_35 : decode cX3_add 35 = .ok (.aload_n 0, 1) := by decide +kernel
theorem dX3_add_36 : decode cX3_add 36 = .ok (.getfield 25, 3) := by decide +kernel
theorem dX3_add_39 : decode cX3_add 39 = .ok (.iconst (-1), 1) := by decide +kernel
theorem dX3_add_40 : decode cX3_add 40 = .ok (.iastore, 1) := by decide +kernel
theorem dX3_add_41 : decode cX3_add 41 = .ok (.aload_n 0, 1) := by decide +kernel
theorem dX3_add_42 : decode cX3_add 42 = .ok (.getfield 21, 3) := by decide +kernel
theorem dX3_add_45 : decode cX3_add 45 = .ok (.aload_n 0, 1) := by decide +kernel
theorem dX3_add_46 : decode cX3_add 46 = .ok (.getfield 25, 3) := by decide +kernel
theorem dX3_add_49 : decode cX3_add 49 = .ok (.lconst 0, 1) := by decide +kernel
theorem dX3_add_50 : decode cX3_add 50 = .ok (.lastore, 1) := by decide +kernel
theorem dX3_add_51 : decode cX3_add 51 = .ok (.aload_n 0, 1) := by decide +kernel
theorem dX3_add_52 : decode cX3_add 52 = .ok (.dup, 1) := by decide +kernel
theorem dX3_add_53 : decode cX3_add 53 = .ok (.getfield 25, 3) := by decide +kernel
theorem dX3_add_56 : decode cX3_add 56 = .ok (.iconst 1, 1) := by decide +kernel
theorem dX3_add_57 : decode cX3_add 57 = .ok (.iadd, 1) := by decide +kernel
theorem dX3_add_58 : decode cX3_add 58 = .ok (.putfield 25, 3) := by decide +kernel
theorem dX3_add_61 : decode cX3_add 61 = .ok (.aload_n 0, 1) := by decide +kernel
theorem dX3_add_62 : decode cX3_add 62 = .ok (.getfield 25, 3) := by decide +kernel
theorem dX3_add_65 : decode cX3_add 65 = .ok (.iconst 1, 1) := by decide +kernel
theorem dX3_add_66 : decode cX3_add 66 = .ok (.isub, 1) := by decide +kernel
theorem dX3_add_67 : decode cX3_add 67 = .ok (.ireturn, 1) := by decide +kernel
theorem dX3_fillTerm_0 : decode cX3_fillTerm 0 = .ok (.aload_n 1, 1) := by decide +kernel
theorem dX3_fillTerm_1 : decode cX3_fillTerm 1 = .ok (.iconst 3, 1) := by decide +kernel
theorem dX3_fillTerm_2 : decode cX3_fillTerm 2 = .ok (.invokevirtual 48, 3) := by decide +kernel
theorem dX3_fillTerm_5 : decode cX3_fillTerm 5 = .ok (.istore 4, 2) := by decide +kernel
theorem dX3_fillTerm_7 : decode cX3_fillTerm 7 = .ok (.aload_n 1, 1) := by decide +kernel
theorem dX3_fillTerm_8 : decode cX3_fillTerm 8 = .ok (.getfield 52, 3) := by decide +kernel
theorem dX3_fillTerm_11 : decode cX3_fillTerm 11 = .ok (.iconst (-1), 1) := by decide +kernel
theorem dX3_fillTerm_12 : decode cX3_fillTerm 12 = .ok (.if_icmp .ne 9, 3) := by decide +kernel
theorem dX3_fillTerm_15 : decode cX3_fillTerm 15 = .ok (.iload_n 2, 1) := by decide +kernel
theorem dX3_fillTerm_16 : decode cX3_fillTerm 16 = .ok (.bipush 20, 2) := by decide +kernel
theorem dX3_fillTerm_18 : decode cX3_fillTerm 18 = .ok (.if_icmp .le 7, 3) := by decide +kernel
theorem dX3_fillTerm_21 : decode cX3_fillTerm 21 = .ok (.iconst 1, 1) := by decide +kernel
theorem dX3_fillTerm_22 : decode cX3_fillTerm 22 = .ok (.goto 4, 3) := by decide +kernel
theorem dX3_fillTerm_25 : decode cX3_fillTerm 25 = .ok (.iconst 0, 1) := by decide +kernel
theorem dX3_fillTerm_26 : decode cX3_fillTerm 26 = .ok (.istore 5, 2) := by decide +kernel
theorem dX3_fillTerm_28 : decode cX3_fillTerm 28 = .ok (.iload 5, 2) := by decide +kernel
theorem dX3_fillTerm_30 : decode cX3_fillTerm 30 = .ok (.ifCond .eq 7, 3) := by decide +kernel
theorem dX3_fillTerm_33 : decode cX3_fillTerm 33 = .ok (.iconst (-1), 1) := by decide +kernel
theorem dX3_fillTerm_34 : decode cX3_fillTerm 34 = .ok (.goto 9, 3) := by decide +kernel
theorem dX3_fillTerm_37 : decode cX3_fillTerm 37 = .ok (.aload_n 0, 1) := by decide +kernel
theorem dX3_fillTerm_38 : decode cX3_fillTerm 38 = .ok (.iload 4, 2) := by decide +kernel
theorem dX3_fillTerm_40 : decode cX3_fillTerm 40 = .ok (.invokevirtual 55, 3) := by decide +kernel
theorem dX3_fillTerm_43 : decode cX3_fillTerm 43 = .ok (.istore 6, 2) := by decide +kernel
theorem dX3_fillTerm_45 : decode cX3_fillTerm 45 = .ok (.iload 6, 2) := by decide +kernel
theorem dX3_fillTerm_47 : decode cX3_fillTerm 47 = .ok (.iconst (-1), 1) := by decide +kernel
theorem dX3_fillTerm_48 : decode cX3_fillTerm 48 = .ok (.if_icmp .ne 9, 3) := by decide +kernel
theorem dX3_fillTerm_51 : decode cX3_fillTerm 51 = .ok (.aload_n 1, 1) := by decide +kernel
theorem dX3_fillTerm_52 : decode cX3_fillTerm 52 = .ok (.invokevirtual 58, 3) := by decide +kernel
theorem dX3_fillTerm_55 : decode cX3_fillTerm 55 = .ok (.iconst (-1), 1) := by decide +kernel
theorem dX3_fillTerm_56 : decode cX3_fillTerm 56 = .ok (.ireturn, 1) := by decide +kernel
theorem dX3_fillTerm_57 : decode cX3_fillTerm 57 = .ok (.iload 4, 2) := by decide +kernel
theorem dX3_fillTerm_59 : decode cX3_fillTerm 59 = .ok (.tableswitch 184 0 7 #[45, 61, 80, 101, 136, 61, 184, 169], 45) := by decide +kernel
theorem dX3_fillTerm_104 : decode cX3_fillTerm 104 = .ok (.aload_n 0, 1) := by decide +kernel
theorem dX3_fillTerm_105 : decode cX3_fillTerm 105 = .ok (.getfield 21, 3) := by decide +kernel
theorem dX3_fillTerm_108 : decode cX3_fillTerm 108 = .ok (.iload 6, 2) := by decide +kernel
theorem dX3_fillTerm_110 : decode cX3_fillTerm 110 = .ok (.aload_n 1, 1) := by decide +kernel
theorem dX3_fillTerm_111 : decode cX3_fillTerm 111 = .ok (.iload_n 3, 1) := by decide +kernel
theorem dX3_fillTerm_112 : decode cX3_fillTerm 112 = .ok (.invokestatic 61, 3) := by decide +kernel
theorem dX3_fillTerm_115 : decode cX3_fillTerm 115 = .ok (.i2l, 1) := by decide +kernel
theorem dX3_fillTerm_116 : decode cX3_fillTerm 116 = .ok (.lastore, 1) := by decide +kernel
theorem dX3_fillTerm_117 : decode cX3_fillTerm 117 = .ok (.goto 126, 3) := by decide +kernel
theorem dX3_fillTerm_120 : decode cX3_fillTerm 120 = .ok (.aload_n 0, 1) := by decide +kernel
theorem dX3_fillTerm_121 : decode cX3_fillTerm 121 = .ok (.getfield 15, 3) := by decide +kernel
theorem dX3_fillTerm_124 : decode cX3_fillTerm 124 = .ok (.iload 6, 2) := by decide +kernel
theorem dX3_fillTerm_126 : decode cX3_fillTerm 126 = .ok (.aload_n 0, 1) := by decide +kernel
theorem dX3_fillTerm_127 : decode cX3_fillTerm 127 = .ok (.aload_n 1, 1) := by decide +kernel
theorem dX3_fillTerm_128 : decode cX3_fillTerm 128 = .ok (.iload_n 2, 1) := by decide +kernel
theorem dX3_fillTerm_129 : decode cX3_fillTerm 129 = .ok (.iconst 1, 1) := by decide +kernel
theorem dX3_fillTerm_130 : decode cX3_fillTerm 130 = .ok (.iadd, 1) := by decide +kernel
theorem dX3_fillTerm_131 : decode cX3_fillTerm 131 = .ok (.iload_n 3, 1) := by decide +kernel
theorem dX3_fillTerm_132 : decode cX3_fillTerm 132 = .ok (.invokevirtual 41, 3) := by decide +kernel
theorem dX3_fillTerm_135 : decode cX3_fillTerm 135 = .ok (.iastore, 1) := by decide +kernel
theorem dX3_fillTerm_136 : decode cX3_fillTerm 136 = .ok (.goto 107, 3) := by decide +kernel
theorem dX3_fillTerm_139 : decode cX3_fillTerm 139 = .ok (.aload_n 0, 1) := by decide +kernel
theorem dX3_fillTerm_140 : decode cX3_fillTerm 140 = .ok (.getfield 15, 3) := by decide +kernel
theorem dX3_fillTerm_143 : decode cX3_fillTerm 143 = .ok (.iload 6, 2) := by decide +kernel
theorem dX3_fillTerm_145 : decode cX3_fillTerm 145 = .ok (.aload_n 0, 1) := by decide +kernel
theorem dX3_fillTerm_146 : decode cX3_fillTerm 146 = .ok (.aload_n 1, 1) := by decide +kernel
theorem dX3_fillTerm_147 : decode cX3_fillTerm 147 = .ok (.iload_n 2, 1) := by decide +kernel
theorem dX3_fillTerm_148 : decode cX3_fillTerm 148 = .ok (.iconst 1, 1) := by decide +kernel
theorem dX3_fillTerm_149 : decode cX3_fillTerm 149 = .ok (.iadd, 1) := by decide +kernel
theorem dX3_fillTerm_150 : decode cX3_fillTerm 150 = .ok (.iload_n 3, 1) := by decide +kernel
theorem dX3_fillTerm_151 : decode cX3_fillTerm 151 = .ok (.iconst 1, 1) := by decide +kernel
theorem dX3_fillTerm_152 : decode cX3_fillTerm 152 = .ok (.iadd, 1) := by decide +kernel
theorem dX3_fillTerm_153 : decode cX3_fillTerm 153 = .ok (.invokevirtual 41, 3) := by decide +kernel
theorem dX3_fillTerm_156 : decode cX3_fillTerm 156 = .ok (.iastore, 1) := by decide +kernel
theorem dX3_fillTerm_157 : decode cX3_fillTerm 157 = .ok (.goto 86, 3) := by decide +kernel
theorem dX3_fillTerm_160 : decode cX3_fillTerm 160 = .ok (.aload_n 0, 1) := by decide +kernel
theorem dX3_fillTerm_161 : decode cX3_fillTerm 161 = .ok (.getfield 15, 3) := by decide +kernel
theorem dX3_fillTerm_164 : decode cX3_fillTerm 164 = .ok (.iload 6, 2) := by decide +kernel
theorem dX3_fillTerm_166 : decode cX3_fillTerm 166 = .ok (.aload_n 0, 1) := by decide +kernel
theorem dX3_fillTerm_167 : decode cX3_fillTerm 167 = .ok (.aload_n 1, 1) := by decide +kernel
theorem dX3_fillTerm_168 : decode cX3_fillTerm 168 = .ok (.iload_n 2, 1) := by decide +kernel
theorem dX3_fillTerm_169 : decode cX3_fillTerm 169 = .ok (.iconst 1, 1) := by decide +kernel
theorem dX3_fillTerm_170 : decode cX3_fillTerm 170 = .ok (.iadd, 1) := by decide +kernel
theorem dX3_fillTerm_171 : decode cX3_fillTerm 171 = .ok (.iload_n 3, 1) := by decide +kernel
theorem dX3_fillTerm_172 : decode cX3_fillTerm 172 = .ok (.invokevirtual 41, 3) := by decide +kernel
theorem dX3_fillTerm_175 : decode cX3_fillTerm 175 = .ok (.iastore, 1) := by decide +kernel
theorem dX3_fillTerm_176 : decode cX3_fillTerm 176 = .ok (.aload_n 0, 1) := by decide +kernel
theorem dX3_fillTerm_177 : decode cX3_fillTerm 177 = .ok (.getfield 18, 3) := by decide +kernel
theorem dX3_fillTerm_180 : decode cX3_fillTerm 180 = .ok (.iload 6, 2) := by decide +kernel
theorem dX3_fillTerm_182 : decode cX3_fillTerm 182 = .ok (.aload_n 0, 1) := by decide +kernel
theorem dX3_fillTerm_183 : decode cX3_fillTerm 183 = .ok (.aload_n 1, 1) := by decide +kernel
theorem dX3_fillTerm_184 : decode cX3_fillTerm 184 = .ok (.iload_n 2, 1) := by decide +kernel
theorem dX3_fillTerm_185 : decode cX3_fillTerm 185 = .ok (.iconst 1, 1) := by decide +kernel
theorem dX3_fillTerm_186 : decode cX3_fillTerm 186 = .ok (.iadd, 1) := by decide +kernel
theorem dX3_fillTerm_187 : decode cX3_fillTerm 187 = .ok (.iload_n 3, 1) := by decide +kernel
theorem dX3_fillTerm_188 : decode cX3_fillTerm 188 = .ok (.invokevirtual 41, 3) := by decide +kernel
theorem dX3_fillTerm_191 : decode cX3_fillTerm 191 = .ok (.iastore, 1) := by decide +kernel
theorem dX3_fillTerm_192 : decode cX3_fillTerm 192 = .ok (.goto 51, 3) := by decide +kernel
theorem dX3_fillTerm_195 : decode cX3_fillTerm 195 = .ok (.aload_n 0, 1) := by decide +kernel
theorem dX3_fillTerm_196 : decode cX3_fillTerm 196 = .ok (.getfield 15, 3) := by decide +kernel
theorem dX3_fillTerm_199 : decode cX3_fillTerm 199 = .ok (.iload 6, 2) := by decide +kernel
theorem dX3_fillTerm_201 : decode cX3_fillTerm 201 = .ok (.aload_n 1, 1) := by decide +kernel
theorem dX3_fillTerm_202 : decode cX3_fillTerm 202 = .ok (.iconst 2, 1) := by decide +kernel
theorem dX3_fillTerm_203 : decode cX3_fillTerm 203 = .ok (.invokevirtual 48, 3) := by decide +kernel
theorem dX3_fillTerm_206 : decode cX3_fillTerm 206 = .ok (.iastore, 1) := by decide +kernel
theorem dX3_fillTerm_207 : decode cX3_fillTerm 207 = .ok (.aload_n 0, 1) := by decide +kernel
theorem dX3_fillTerm_208 : decode cX3_fillTerm 208 = .ok (.getfield 21, 3) := by decide +kernel
theorem dX3_fillTerm_211 : decode cX3_fillTerm 211 = .ok (.iload 6, 2) := by decide +kernel
theorem dX3_fillTerm_213 : decode cX3_fillTerm 213 = .ok (.aload_n 1, 1) := by decide +kernel
theorem dX3_fillTerm_214 : decode cX3_fillTerm 214 = .ok (.aload_n 0, 1) := by decide +kernel
theorem dX3_fillTerm_215 : decode cX3_fillTerm 215 = .ok (.getfield 15, 3) := by decide +kernel
theorem dX3_fillTerm_218 : decode cX3_fillTerm 218 = .ok (.iload 6, 2) := by decide +kernel
theorem dX3_fillTerm_220 : decode cX3_fillTerm 220 = .ok (.iaload, 1) := by decide +kernel
theorem dX3_fillTerm_221 : decode cX3_fillTerm 221 = .ok (.invokestatic 65, 3) := by decide +kernel
theorem dX3_fillTerm_224 : decode cX3_fillTerm 224 = .ok (.lastore, 1) := by decide +kernel
theorem dX3_fillTerm_225 : decode cX3_fillTerm 225 = .ok (.goto 18, 3) := by decide +kernel
theorem dX3_fillTerm_228 : decode cX3_fillTerm 228 = .ok (.aload_n 0, 1) := by decide +kernel
theorem dX3_fillTerm_229 : decode cX3_fillTerm 229 = .ok (.getfield 21, 3) := by decide +kernel
theorem dX3_fillTerm_232 : decode cX3_fillTerm 232 = .ok (.iload 6, 2) := by decide +kernel
theorem dX3_fillTerm_234 : decode cX3_fillTerm 234 = .ok (.aload_n 1, 1) := by decide +kernel
theorem dX3_fillTerm_235 : decode cX3_fillTerm 235 = .ok (.invokestatic 69, 3) := by decide +kernel
theorem dX3_fillTerm_238 : decode cX3_fillTerm 238 = .ok (.i2l, 1) := by decide +kernel
theorem dX3_fillTerm_239 : decode cX3_fillTerm 239 = .ok (.lastore, 1) := by decide +kernel
theorem dX3_fillTerm_240 : decode cX3_fillTerm 240 = .ok (.goto 3, 3) := by decide +kernel
theorem dX3_fillTerm_243 : decode cX3_fillTerm 243 = .ok (.iload 6, 2) := by decide +kernel
theorem dX3_fillTerm_245 : decode cX3_fillTerm 245 = .ok (.ireturn, 1) := by decide +kernel
theorem dX3_takeVariable_0 : decode cX3_takeVariable 0 = .ok (.aload_n 0, 1) := by decide +kernel
theorem dX3_takeVariable_1 : decode cX3_takeVariable 1 = .ok (.invokevirtual 37, 3) := by decide +kernel
theorem dX3_takeVariable_4 : decode cX3_takeVariable 4 = .ok (.istore_n 2, 1) := by decide +kernel
theorem dX3_takeVariable_5 : decode cX3_takeVariable 5 = .ok (.iload_n 2, 1) := by decide +kernel
theorem dX3_takeVariable_6 : decode cX3_takeVariable 6 = .ok (.iconst 1, 1) := by decide +kernel
theorem dX3_takeVariable_7 : decode cX3_takeVariable 7 = .ok (.if_icmp .lt 8, 3) := by decide +kernel
theorem dX3_takeVariable_10 : decode cX3_takeVariable 10 = .ok (.iload_n 2, 1) := by decide +kernel
theorem dX3_takeVariable_11 : decode cX3_takeVariable 11 = .ok (.iload_n 1, 1) := by decide +kernel
theorem dX3_takeVariable_12 : decode cX3_takeVariable 12 = .ok (.if_icmp .le 7, 3) := by decide +kernel
theorem dX3_takeVariable_15 : decode cX3_takeVariable 15 = .ok (.aload_n 0, 1) := by decide +kernel
theorem dX3_takeVariable_16 : decode cX3_takeVariable 16 = .ok (.invokevirtual 58, 3) := by decide +kernel
theorem dX3_takeVariable_19 : decode cX3_takeVariable 19 = .ok (.iload_n 2, 1) := by decide +kernel
theorem dX3_takeVariable_20 : decode cX3_takeVariable 20 = .ok (.ireturn, 1) := by decide +kernel
theorem dX3_takeOperation_0 : decode cX3_takeOperation 0 = .ok (.aload_n 0, 1) := by decide +kernel
theorem dX3_takeOperation_1 : decode cX3_takeOperation 1 = .ok (.iconst 4, 1) := by decide +kernel
theorem dX3_takeOperation_2 : decode cX3_takeOperation 2 = .ok (.invokevirtual 48, 3) := by decide +kernel
theorem dX3_takeOperation_5 : decode cX3_takeOperation 5 = .ok (.istore_n 1, 1) := by decide +kernel
theorem dX3_takeOperation_6 : decode cX3_takeOperation 6 = .ok (.iload_n 1, 1) := by decide +kernel
theorem dX3_takeOperation_7 : decode cX3_takeOperation 7 = .ok (.bipush 11, 2) := by decide +kernel
theorem dX3_takeOperation_9 : decode cX3_takeOperation 9 = .ok (.if_icmp .le 7, 3) := by decide +kernel
theorem dX3_takeOperation_12 : decode cX3_takeOperation 12 = .ok (.aload_n 0, 1) := by decide +kernel
theorem dX3_takeOperation_13 : decode cX3_takeOperation 13 = .ok (.invokevirtual 58, 3) := by decide +kernel
theorem dX3_takeOperation_16 : decode cX3_takeOperation 16 = .ok (.iload_n 1, 1) := by decide +kernel
theorem dX3_takeOperation_17 : decode cX3_takeOperation 17 = .ok (.ireturn, 1) := by decide +kernel
theorem dX3_takeConstant_0 : decode cX3_takeConstant 0 = .ok (.iload_n 1, 1) := by decide +kernel
theorem dX3_takeConstant_1 : decode cX3_takeConstant 1 = .ok (.tableswitch 52 0 3 #[31, 40, 52, 47], 31) := by decide +kernel
theorem dX3_takeConstant_32 : decode cX3_takeConstant 32 = .ok (.aload_n 0, 1) := by decide +kernel
theorem dX3_takeConstant_33 : decode cX3_takeConstant 33 = .ok (.invokevirtual 37, 3) := by decide +kernel
theorem dX3_takeConstant_36 : decode cX3_takeConstant 36 = .ok (.invokestatic 73, 3) := by decide +kernel
theorem dX3_takeConstant_39 : decode cX3_takeConstant 39 = .ok (.i2l, 1) := by decide +kernel
theorem dX3_takeConstant_40 : decode cX3_takeConstant 40 = .ok (.lreturn, 1) := by decide +kernel
theorem dX3_takeConstant_41 : decode cX3_takeConstant 41 = .ok (.aload_n 0, 1) := by decide +kernel
theorem dX3_takeConstant_42 : decode cX3_takeConstant 42 = .ok (.iconst 1, 1) := by decide +kernel
theorem dX3_takeConstant_43 : decode cX3_takeConstant 43 = .ok (.invokevirtual 48, 3) := by decide +kernel
theorem dX3_takeConstant_46 : decode cX3_takeConstant 46 = .ok (.i2l, 1) := by decide +kernel
theorem dX3_takeConstant_47 : decode cX3_takeConstant 47 = .ok (.lreturn, 1) := by decide +kernel
theorem dX3_takeConstant_48 : decode cX3_takeConstant 48 = .ok (.aload_n 0, 1) := by decide +kernel
theorem dX3_takeConstant_49 : decode cX3_takeConstant 49 = .ok (.invokevirtual 76, 3) := by decide +kernel
theorem dX3_takeConstant_52 : decode cX3_takeConstant 52 = .ok (.lreturn, 1) := by decide +kernel
theorem dX3_takeConstant_53 : decode cX3_takeConstant 53 = .ok (.lconst 0, 1) := by decide +kernel
theorem dX3_takeConstant_54 : decode cX3_takeConstant 54 = .ok (.lreturn, 1) := by decide +kernel
theorem dX3_signed_0 : decode cX3_signed 0 = .ok (.iload_n 0, 1) := by decide +kernel
theorem dX3_signed_1 : decode cX3_signed 1 = .ok (.iconst 1, 1) := by decide +kernel
theorem dX3_signed_2 : decode cX3_signed 2 = .ok (.iand, 1) := by decide +kernel
theorem dX3_signed_3 : decode cX3_signed 3 = .ok (.ifCond .ne 9, 3) := by decide +kernel
theorem dX3_signed_6 : decode cX3_signed 6 = .ok (.iload_n 0, 1) := by decide +kernel
theorem dX3_signed_7 : decode cX3_signed 7 = .ok (.iconst 2, 1) := by decide +kernel
theorem dX3_signed_8 : decode cX3_signed 8 = .ok (.idiv, 1) := by decide +kernel
theorem dX3_signed_9 : decode cX3_signed 9 = .ok (.goto 9, 3) := by decide +kernel
theorem dX3_signed_12 : decode cX3_signed 12 = .ok (.iload_n 0, 1) := by decide +kernel
theorem dX3_signed_13 : decode cX3_signed 13 = .ok (.iconst 2, 1) := by decide +kernel
theorem dX3_signed_14 : decode cX3_signed 14 = .ok (.idiv, 1) := by decide +kernel
theorem dX3_signed_15 : decode cX3_signed 15 = .ok (.ineg, 1) := by decide +kernel
theorem dX3_signed_16 : decode cX3_signed 16 = .ok (.iconst 1, 1) := by decide +kernel
theorem dX3_signed_17 : decode cX3_signed 17 = .ok (.isub, 1) := by decide +kernel
theorem dX3_signed_18 : decode cX3_signed 18 = .ok (.ireturn, 1) := by decide +kernel
theorem dX4_init_0 : decode cX4_init 0 = .ok (.aload_n 0, 1) := by decide +kernel
theorem dX4_init_1 : decode cX4_init 1 = .ok (.invokespecial 3, 3) := by decide +kernel
theorem dX4_init_4 : decode cX4_init 4 = .ok (.aload_n 0, 1) := by decide +kernel
theorem dX4_init_5 : decode cX4_init 5 = .ok (.sipush 600, 3) := by decide +kernel
theorem dX4_init_8 : decode cX4_init 8 = .ok (.newarray .int, 2) := by decide +kernel
theorem dX4_init_10 : decode cX4_init 10 = .ok (.putfield 9, 3) := by decide +kernel
theorem dX4_init_13 : decode cX4_init 13 = .ok (.aload_n 0, 1) := by decide +kernel
theorem dX4_init_14 : decode cX4_init 14 = .ok (.sipush 600, 3) := by decide +kernel
theorem dX4_init_17 : decode cX4_init 17 = .ok (.newarray .long, 2) := by decide +kernel
theorem dX4_init_19 : decode cX4_init 19 = .ok (.putfield 15, 3) := by decide +kernel
theorem dX4_init_22 : decode cX4_init 22 = .ok (.aload_n 0, 1) := by decide +kernel
theorem dX4_init_23 : decode cX4_init 23 = .ok (.sipush 600, 3) := by decide +kernel
theorem dX4_init_26 : decode cX4_init 26 = .ok (.newarray .int, 2) := by decide +kernel
theorem dX4_init_28 : decode cX4_init 28 = .ok (.putfield 19, 3) := by decide +kernel
theorem dX4_init_31 : decode cX4_init 31 = .ok (.aload_n 0, 1) := by decide +kernel
theorem dX4_init_32 : decode cX4_init 32 = .ok (.sipush 600, 3) := by decide +kernel
theorem dX4_init_35 : decode cX4_init 35 = .ok (.newarray .int, 2) := by decide +kernel
theorem dX4_init_37 : decode cX4_init 37 = .ok (.putfield 22, 3) := by decide +kernel
theorem dX4_init_40 : decode cX4_init 40 = .ok (.aload_n 0, 1) := by decide +kernel
theorem dX4_init_41 : decode cX4_init 41 = .ok (.sipush 600, 3) := by decide +kernel
theorem dX4_init_44 : decode cX4_init 44 = .ok (.newarray .int, 2) := by decide +kernel
theorem dX4_init_46 : decode cX4_init 46 = .ok (.putfield 25, 3) := by decide +kernel
theorem dX4_init_49 : decode cX4_init 49 = .ok (.aload_n 0, 1) := by decide +kernel
theorem dX4_init_50 : decode cX4_init 50 = .ok (.iconst 0, 1) := by decide +kernel
theorem dX4_init_51 : decode cX4_init 51 = .ok (.putfield 28, 3) := by decide +kernel
theorem dX4_init_54 : decode cX4_init 54 = .ok (.return_, 1) := by decide +kernel
theorem dX4_hasRoom_0 : decode cX4_hasRoom 0 = .ok (.aload_n 0, 1) := by decide +kernel
theorem dX4_hasRoom_1 : decode cX4_hasRoom 1 = .ok (.getfield 28, 3) := by decide +kernel
theorem dX4_hasRoom_4 : decode cX4_hasRoom 4 = .ok (.iload_n 1, 1) := by decide +kernel
theorem dX4_hasRoom_5 : decode cX4_hasRoom 5 = .ok (.iadd, 1) := by decide +kernel
theorem dX4_hasRoom_6 : decode cX4_hasRoom 6 = .ok (.sipush 600, 3) := by decide +kernel
theorem dX4_hasRoom_9 : decode cX4_hasRoom 9 = .ok (.if_icmp .gt 7, 3) := by decide +kernel
theorem dX4_hasRoom_12 : decode cX4_hasRoom 12 = .ok (.iconst 1, 1) := by decide +kernel
theorem dX4_hasRoom_13 : decode cX4_hasRoom 13 = .ok (.goto 4, 3) := by decide +kernel
theorem dX4_hasRoom_16 : decode cX4_hasRoom 16 = .ok (.iconst 0, 1) := by decide +kernel
theorem dX4_hasRoom_17 : decode cX4_hasRoom 17 = .ok (.ireturn, 1) := by decide +kernel
theorem dX4_add_0 : decode cX4_add 0 = .ok (.aload_n 0, 1) := by decide +kernel
theorem dX4_add_1 : decode cX4_add 1 = .ok (.getfield 28, 3) := by decide +kernel
theorem dX4_add_4 : decode cX4_add 4 = .ok (.sipush 600, 3) := by decide +kernel
theorem dX4_add_7 : decode cX4_add 7 = .ok (.if_icmp .lt 5, 3) := by decide +kernel
theorem dX4_add_10 : decode cX4_add 10 = .ok (.iconst (-1), 1) := by decide +kernel
theorem dX4_add_11 : decode cX4_add 11 = .ok (.ireturn, 1) := by decide +kernel
theorem dX4_add_12 : decode cX4_add 12 = .ok (.aload_n 0, 1) := by decide +kernel
theorem dX4_add_13 : decode cX4_add 13 = .ok (.getfield 9, 3) := by decide +kernel
theorem dX4_add_16 : decode cX4_add 16 = .ok (.aload_n 0, 1) := by decide +kernel
theorem dX4_add_17 : decode cX4_add 17 = .ok (.getfield 28, 3) := by decide +kernel
theorem dX4_add_20 : decode cX4_add 20 = .ok (.iload_n 1, 1) := by decide +kernel
theorem dX4_add_21 : decode cX4_add 21 = .ok (.iastore, 1) := by decide +kernel
theorem dX4_add_22 : decode cX4_add 22 = .ok (.aload_n 0, 1) := by decide +kernel
theorem dX4_add_23 : decode cX4_add 23 = .ok (.getfield 15, 3) := by decide +kernel
theorem dX4_add_26 : decode cX4_add 26 = .ok (.aload_n 0, 1) := by decide +kernel
theorem dX4_add_27 : decode cX4_add 27 = .ok (.getfield 28, 3) := by decide +kernel
theorem dX4_add_30 : decode cX4_add 30 = .ok (.lload_n 2, 1) := by decide +kernel
theorem dX4_add_31 : decode cX4_add 31 = .ok (.lastore, 1) := by decide +kernel
theorem dX4_add_32 : decode cX4_add 32 = .ok (.aload_n 0, 1) := by decide +kernel
theorem dX4_add_33 : decode cX4_add 33 = .ok (.getfield 19, 3) := by decide +kernel
theorem dX4_add_36 : decode cX4_add 36 = .ok (.aload_n 0, 1) := by decide +kernel
theorem dX4_add_37 : decode cX4_add 37 = .ok (.getfield 28, 3) := by decide +kernel
theorem dX4_add_40 : decode cX4_add 40 = .ok (.iload 4, 2) := by decide +kernel
theorem dX4_add_42 : decode cX4_add 42 = .ok (.iastore, 1) := by decide +kernel
theorem dX4_add_43 : decode cX4_add 43 = .ok (.aload_n 0, 1) := by decide +kernel
theorem dX4_add_44 : decode cX4_add 44 = .ok (.getfield 22, 3) := by decide +kernel
theorem dX4_add_47 : decode cX4_add 47 = .ok (.aload_n 0, 1) := by decide +kernel
theorem dX4_add_48 : decode cX4_add 48 = .ok (.getfield 28, 3) := by decide +kernel
theorem dX4_add_51 : decode cX4_add 51 = .ok (.iload 5, 2) := by decide +kernel
theorem dX4_add_53 : decode cX4_add 53 = .ok (.iastore, 1) := by decide +kernel
theorem dX4_add_54 : decode cX4_add 54 = .ok (.aload_n 0, 1) := by decide +kernel
theorem dX4_add_55 : decode cX4_add 55 = .ok (.getfield 25, 3) := by decide +kernel
theorem dX4_add_58 : decode cX4_add 58 = .ok (.aload_n 0, 1) := by decide +kernel
theorem dX4_add_59 : decode cX4_add 59 = .ok (.getfield 28, 3) := by decide +kernel
theorem dX4_add_62 : decode cX4_add 62 = .ok (.iconst 0, 1) := by decide +kernel
theorem dX4_add_63 : decode cX4_add 63 = .ok (.iastore, 1) := by decide +kernel
theorem dX4_add_64 : decode cX4_add 64 = .ok (.aload_n 0, 1) := by decide +kernel
theorem dX4_add_65 : decode cX4_add 65 = .ok (.dup, 1) := by decide +kernel
theorem dX4_add_66 : decode cX4_add 66 = .ok (.getfield 28, 3) := by decide +kernel
theorem dX4_add_69 : decode cX4_add 69 = .ok (.iconst 1, 1) := by decide +kernel
theorem dX4_add_70 : decode cX4_add 70 = .ok (.iadd, 1) := by decide +kernel
theorem dX4_add_71 : decode cX4_add 71 = .ok (.putfield 28, 3) := by decide +kernel
theorem dX4_add_74 : decode cX4_add 74 = .ok (.aload_n 0, 1) := by decide +kernel
theorem dX4_add_75 : decode cX4_add 75 = .ok (.getfield 28, 3) := by decide +kernel
theorem dX4_add_78 : decode cX4_add 78 = .ok (.iconst 1, 1) := by decide +kernel
theorem dX4_add_79 : decode cX4_add 79 = .ok (.isub, 1) := by decide +kernel
theorem dX4_add_80 : decode cX4_add 80 = .ok (.ireturn, 1) := by decide +kernel
theorem dX4_addGrown_0 : decode cX4_addGrown 0 = .ok (.aload_n 0, 1) := by decide +kernel
theorem dX4_addGrown_1 : decode cX4_addGrown 1 = .ok (.bipush 6, 2) := by decide +kernel
theorem dX4_addGrown_3 : decode cX4_addGrown 3 = .ok (.aload_n 0, 1) := by decide +kernel
theorem dX4_addGrown_4 : decode cX4_addGrown 4 = .ok (.getfield 15, 3) := by decide +kernel
theorem dX4_addGrown_7 : decode cX4_addGrown 7 = .ok (.iload_n 1, 1) := by decide +kernel
theorem dX4_addGrown_8 : decode cX4_addGrown 8 = .ok (.invokestatic 32, 3) := by decide +kernel
theorem dX4_addGrown_11 : decode cX4_addGrown 11 = .ok (.iload_n 2, 1) := by decide +kernel
theorem dX4_addGrown_12 : decode cX4_addGrown 12 = .ok (.iload_n 1, 1) := by decide +kernel
theorem dX4_addGrown_13 : decode cX4_addGrown 13 = .ok (.invokevirtual 36, 3) := by decide +kernel
theorem dX4_addGrown_16 : decode cX4_addGrown 16 = .ok (.istore_n 3, 1) := by decide +kernel
theorem dX4_addGrown_17 : decode cX4_addGrown 17 = .ok (.iload_n 3, 1) := by decide +kernel
theorem dX4_addGrown_18 : decode cX4_addGrown 18 = .ok (.iconst (-1), 1) := by decide +kernel
theorem dX4_addGrown_19 : decode cX4_addGrown 19 = .ok (.if_icmp .eq 19, 3) := by decide +kernel
theorem dX4_addGrown_22 : decode cX4_addGrown 22 = .ok (.aload_n 0, 1) := by decide +kernel
theorem dX4_addGrown_23 : decode cX4_addGrown 23 = .ok (.getfield 25, 3) := by decide +kernel
theorem dX4_addGrown_26 : decode cX4_addGrown 26 = .ok (.iload_n 3, 1) := by decide +kernel
theorem dX4_addGrown_27 : decode cX4_addGrown 27 = .ok (.aload_n 0, 1) := by decide +kernel
theorem dX4_addGrown_28 : decode cX4_addGrown 28 = .ok (.getfield 25, 3) := by decide +kernel
theorem dX4_addGrown_31 : decode cX4_addGrown 31 = .ok (.iload_n 1, 1) := by decide +kernel
theorem dX4_addGrown_32 : decode cX4_addGrown 32 = .ok (.invokestatic 40, 3) := by decide +kernel
theorem dX4_addGrown_35 : decode cX4_addGrown 35 = .ok (.iconst 1, 1) := by decide +kernel
theorem dX4_addGrown_36 : decode cX4_addGrown 36 = .ok (.iadd, 1) := by decide +kernel
theorem dX4_addGrown_37 : decode cX4_addGrown 37 = .ok (.iastore, 1) := by decide +kernel
theorem dX4_addGrown_38 : decode cX4_addGrown 38 = .ok (.iload_n 3, 1) := by decide +kernel
theorem dX4_addGrown_39 : decode cX4_addGrown 39 = .ok (.ireturn, 1) := by decide +kernel
theorem dX4_operationOf_0 : decode cX4_operationOf 0 = .ok (.aload_n 0, 1) := by decide +kernel
theorem dX4_operationOf_1 : decode cX4_operationOf 1 = .ok (.getfield 15, 3) := by decide +kernel
theorem dX4_operationOf_4 : decode cX4_operationOf 4 = .ok (.iload_n 1, 1) := by decide +kernel
theorem dX4_operationOf_5 : decode cX4_operationOf 5 = .ok (.invokestatic 32, 3) := by decide +kernel
theorem dX4_operationOf_8 : decode cX4_operationOf 8 = .ok (.l2i, 1) := by decide +kernel
theorem dX4_operationOf_9 : decode cX4_operationOf 9 = .ok (.ireturn, 1) := by decide +kernel
theorem dX4_wantsForce_0 : decode cX4_wantsForce 0 = .ok (.aload_n 0, 1) := by decide +kernel
theorem dX4_wantsForce_1 : decode cX4_wantsForce 1 = .ok (.getfield 9, 3) := by decide +kernel
theorem dX4_wantsForce_4 : decode cX4_wantsForce 4 = .ok (.iload_n 1, 1) := by decide +kernel
theorem dX4_wantsForce_5 : decode cX4_wantsForce 5 = .ok (.invokestatic 40, 3) := by decide +kernel
theorem dX4_wantsForce_8 : decode cX4_wantsForce 8 = .ok (.bipush 6, 2) := by decide +kernel
theorem dX4_wantsForce_10 : decode cX4_wantsForce 10 = .ok (.if_icmp .ne 29, 3) := by decide +kernel
theorem dX4_wantsForce_13 : decode cX4_wantsForce 13 = .ok (.aload_n 0, 1) := by decide +kernel
theorem dX4_wantsForce_14 : decode cX4_wantsForce 14 = .ok (.getfield 25, 3) := by decide +kernel
theorem dX4_wantsForce_17 : decode cX4_wantsForce 17 = .ok (.iload_n 1, 1) := by decide +kernel
theorem dX4_wantsForce_18 : decode cX4_wantsForce 18 = .ok (.invokestatic 40, 3) := by decide +kernel
theorem dX4_wantsForce_21 : decode cX4_wantsForce 21 = .ok (.getstatic 44, 3) := by decide +kernel
theorem dX4_wantsForce_24 : decode cX4_wantsForce 24 = .ok (.aload_n 0, 1) := by decide +kernel
theorem dX4_wantsForce_25 : decode cX4_wantsForce 25 = .ok (.iload_n 1, 1) := by decide +kernel
theorem dX4_wantsForce_26 : decode cX4_wantsForce 26 = .ok (.invokevirtual 47, 3) := by decide +kernel
theorem dX4_wantsForce_29 : decode cX4_wantsForce 29 = .ok (.invokestatic 40, 3) := by decide +kernel
theorem dX4_wantsForce_32 : decode cX4_wantsForce 32 = .ok (.if_icmp .ge 7, 3) := by decide +kernel
theorem dX4_wantsForce_35 : decode cX4_wantsForce 35 = .ok (.iconst 1, 1) := by decide +kernel
theorem dX4_wantsForce_36 : decode cX4_wantsForce 36 = .ok (.goto 4, 3) := by decide +kernel
theorem dX4_wantsForce_39 : decode cX4_wantsForce 39 = .ok (.iconst 0, 1) := by decide +kernel
theorem dX4_wantsForce_40 : decode cX4_wantsForce 40 = .ok (.ireturn, 1) := by decide +kernel
theorem dX4_wantsArgument_0 : decode cX4_wantsArgument 0 = .ok (.aload_n 0, 1) := by decide +kernel
theorem dX4_wantsArgument_1 : decode cX4_wantsArgument 1 = .ok (.getfield 9, 3) := by decide +kernel
theorem dX4_wantsArgument_4 : decode cX4_wantsArgument 4 = .ok (.iload_n 1, 1) := by decide +kernel
theorem dX4_wantsArgument_5 : decode cX4_wantsArgument 5 = .ok (.invokestatic 40, 3) := by decide +kernel
theorem dX4_wantsArgument_8 : decode cX4_wantsArgument 8 = .ok (.bipush 6, 2) := by decide +kernel
theorem dX4_wantsArgument_10 : decode cX4_wantsArgument 10 = .ok (.if_icmp .ne 29, 3) := by decide +kernel
theorem dX4_wantsArgument_13 : decode cX4_wantsArgument 13 = .ok (.aload_n 0, 1) := by decide +kernel
theorem dX4_wantsArgument_14 : decode cX4_wantsArgument 14 = .ok (.getfield 25, 3) := by decide +kernel
theorem dX4_wantsArgument_17 : decode cX4_wantsArgument 17 = .ok (.iload_n 1, 1) := by decide +kernel
theorem dX4_wantsArgument_18 : decode cX4_wantsArgument 18 = .ok (.invokestatic 40, 3) := by decide +kernel
theorem dX4_wantsArgument_21 : decode cX4_wantsArgument 21 = .ok (.getstatic 44, 3) := by decide +kernel
theorem dX4_wantsArgument_24 : decode cX4_wantsArgument 24 = .ok (.aload_n 0, 1) := by decide +kernel
theorem dX4_wantsArgument_25 : decode cX4_wantsArgument 25 = .ok (.iload_n 1, 1) := by decide +kernel
theorem dX4_wantsArgument_26 : decode cX4_wantsArgument 26 = .ok (.invokevirtual 47, 3) := by decide +kernel
theorem dX4_wantsArgument_29 : decode cX4_wantsArgument 29 = .ok (.invokestatic 40, 3) := by decide +kernel
theorem dX4_wantsArgument_32 : decode cX4_wantsArgument 32 = .ok (.if_icmp .lt 7, 3) := by decide +kernel
theorem dX4_wantsArgument_35 : decode cX4_wantsArgument 35 = .ok (.iconst 1, 1) := by decide +kernel
theorem dX4_wantsArgument_36 : decode cX4_wantsArgument 36 = .ok (.goto 4, 3) := by decide +kernel
theorem dX4_wantsArgument_39 : decode cX4_wantsArgument 39 = .ok (.iconst 0, 1) := by decide +kernel
theorem dX4_wantsArgument_40 : decode cX4_wantsArgument 40 = .ok (.ireturn, 1) := by decide +kernel
theorem dX4_wantsOneArgument_0 : decode cX4_wantsOneArgument 0 = .ok (.aload_n 0, 1) := by decide +kernel
theorem dX4_wantsOneArgument_1 : decode cX4_wantsOneArgument 1 = .ok (.iload_n 1, 1) := by decide +kernel
theorem dX4_wantsOneArgument_2 : decode cX4_wantsOneArgument 2 = .ok (.invokevirtual 47, 3) := by decide +kernel
theorem dX4_wantsOneArgument_5 : decode cX4_wantsOneArgument 5 = .ok (.istore_n 2, 1) := by decide +kernel
theorem dX4_wantsOneArgument_6 : decode cX4_wantsOneArgument 6 = .ok (.aload_n 0, 1) := by decide +kernel
theorem dX4_wantsOneArgument_7 : decode cX4_wantsOneArgument 7 = .ok (.iload_n 1, 1) := by decide +kernel
theorem dX4_wantsOneArgument_8 : decode cX4_wantsOneArgument 8 = .ok (.invokevirtual 51, 3) := by decide +kernel
theorem dX4_wantsOneArgument_11 : decode cX4_wantsOneArgument 11 = .ok (.ifCond .eq 35, 3) := by decide +kernel
theorem dX4_wantsOneArgument_14 : decode cX4_wantsOneArgument 14 = .ok (.aload_n 0, 1) := by decide +kernel
theorem dX4_wantsOneArgument_15 : decode cX4_wantsOneArgument 15 = .ok (.getfield 25, 3) := by decide +kernel
theorem dX4_wantsOneArgument_18 : decode cX4_wantsOneArgument 18 = .ok (.iload_n 1, 1) := by decide +kernel
theorem dX4_wantsOneArgument_19 : decode cX4_wantsOneArgument 19 = .ok (.invokestatic 40, 3) := by decide +kernel
theorem dX4_wantsOneArgument_22 : decode cX4_wantsOneArgument 22 = .ok (.iconst 1, 1) := by decide +kernel
theorem dX4_wantsOneArgument_23 : decode cX4_wantsOneArgument 23 = .ok (.iadd, 1) := by decide +kernel
theorem dX4_wantsOneArgument_24 : decode cX4_wantsOneArgument 24 = .ok (.getstatic 44, 3) := by decide +kernel
theorem dX4_wantsOneArgument_27 : decode cX4_wantsOneArgument 27 = .ok (.iload_n 2, 1) := by decide +kernel
theorem dX4_wantsOneArgument_28 : decode cX4_wantsOneArgument 28 = .ok (.invokestatic 40, 3) := by decide +kernel
theorem dX4_wantsOneArgument_31 : decode cX4_wantsOneArgument 31 = .ok (.getstatic 55, 3) := by decide +kernel
theorem dX4_wantsOneArgument_34 : decode cX4_wantsOneArgument 34 = .ok (.iload_n 2, 1) := by decide +kernel
theorem dX4_wantsOneArgument_35 : decode cX4_wantsOneArgument 35 = .ok (.invokestatic 40, 3) := by decide +kernel
theorem dX4_wantsOneArgument_38 : decode cX4_wantsOneArgument 38 = .ok (.iadd, 1) := by decide +kernel
theorem dX4_wantsOneArgument_39 : decode cX4_wantsOneArgument 39 = .ok (.if_icmp .ne 7, 3) := by decide +kernel
theorem dX4_wantsOneArgument_42 : decode cX4_wantsOneArgument 42 = .ok (.iconst 1, 1) := by decide +kernel
theorem dX4_wantsOneArgument_43 : decode cX4_wantsOneArgument 43 = .ok (.goto 4, 3) := by decide +kernel
theorem dX4_wantsOneArgument_46 : decode cX4_wantsOneArgument 46 = .ok (.iconst 0, 1) := by decide +kernel
theorem dX4_wantsOneArgument_47 : decode cX4_wantsOneArgument 47 = .ok (.ireturn, 1) := by decide +kernel
theorem dX4_valueAt_0 : decode cX4_valueAt 0 = .ok (.iload_n 1, 1) := by decide +kernel
theorem dX4_valueAt_1 : decode cX4_valueAt 1 = .ok (.istore_n 3, 1) := by decide +kernel
theorem dX4_valueAt_2 : decode cX4_valueAt 2 = .ok (.iconst 1, 1) := by decide +kernel
theorem dX4_valueAt_3 : decode cX4_valueAt 3 = .ok (.istore 4, 2) := by decide +kernel
theorem dX4_valueAt_5 : decode cX4_valueAt 5 = .ok (.iload 4, 2) := by decide +kernel
theorem dX4_valueAt_7 : decode cX4_valueAt 7 = .ok (.iload_n 2, 1) := by decide +kernel
theorem dX4_valueAt_8 : decode cX4_valueAt 8 = .ok (.if_icmp .ge 23, 3) := by decide +kernel
theorem dX4_valueAt_11 : decode cX4_valueAt 11 = .ok (.iload_n 3, 1) := by decide +kernel
theorem dX4_valueAt_12 : decode cX4_valueAt 12 = .ok (.iconst (-1), 1) := by decide +kernel
theorem dX4_valueAt_13 : decode cX4_valueAt 13 = .ok (.if_icmp .eq 18, 3) := by decide +kernel
theorem dX4_valueAt_16 : decode cX4_valueAt 16 = .ok (.aload_n 0, 1) := by decide +kernel
theorem dX4_valueAt_17 : decode cX4_valueAt 17 = .ok (.getfield 22, 3) := by decide +kernel
theorem dX4_valueAt_20 : decode cX4_valueAt 20 = .ok (.iload_n 3, 1) := by decide +kernel
theorem dX4_valueAt_21 : decode cX4_valueAt 21 = .ok (.invokestatic 40, 3) := by decide +kernel
theorem dX4_valueAt_24 : decode cX4_valueAt 24 = .ok (.istore_n 3, 1) := by decide +kernel
theorem dX4_valueAt_25 : decode cX4_valueAt 25 = .ok (.iinc 4 1, 3) := by decide +kernel
theorem dX4_valueAt_28 : decode cX4_valueAt 28 = .ok (.goto (-23), 3) := by decide +kernel
theorem dX4_valueAt_31 : decode cX4_valueAt 31 = .ok (.aload_n 0, 1) := by decide +kernel
theorem dX4_valueAt_32 : decode cX4_valueAt 32 = .ok (.getfield 19, 3) := by decide +kernel
theorem dX4_valueAt_35 : decode cX4_valueAt 35 = .ok (.iload_n 3, 1) := by decide +kernel
theorem dX4_valueAt_36 : decode cX4_valueAt 36 = .ok (.invokestatic 40, 3) := by decide +kernel
theorem dX4_valueAt_39 : decode cX4_valueAt 39 = .ok (.ireturn, 1) := by decide +kernel
