theorem dX5_init_0 : decode cX5_init 0 = .ok (.aload_n 0, 1) := by decide +kernel
theorem dX5_init_1 : decode cX5_init 1 = .ok (.invokespecial 3, 3) := by decide +kernel
theorem dX5_init_4 : decode cX5_init 4 = .ok (.aload_n 0, 1) := by decide +kernel
theorem dX5_init_5 : decode cX5_init 5 = .ok (.sipush 400, 3) := by decide +kernel
theorem dX5_init_8 : decode cX5_init 8 = .ok (.newarray .int, 2) := by decide +kernel
theorem dX5_init_10 : decode cX5_init 10 = .ok (.putfield 9, 3) := by decide +kernel
theorem dX5_init_13 : decode cX5_init 13 = .ok (.aload_n 0, 1) := by decide +kernel
theorem dX5_init_14 : decode cX5_init 14 = .ok (.iconst 0, 1) := by decide +kernel
theorem dX5_init_15 : decode cX5_init 15 = .ok (.putfield 15, 3) := by decide +kernel
theorem dX5_init_18 : decode cX5_init 18 = .ok (.aload_n 0, 1) := by decide +kernel
theorem dX5_init_19 : decode cX5_init 19 = .ok (.sipush 408, 3) := by decide +kernel
theorem dX5_init_22 : decode cX5_init 22 = .ok (.newarray .int, 2) := by decide +kernel
theorem dX5_init_24 : decode cX5_init 24 = .ok (.putfield 19, 3) := by decide +kernel
theorem dX5_init_27 : decode cX5_init 27 = .ok (.aload_n 0, 1) := by decide +kernel
theorem dX5_init_28 : decode cX5_init 28 = .ok (.sipush 408, 3) := by decide +kernel
theorem dX5_init_31 : decode cX5_init 31 = .ok (.newarray .int, 2) := by decide +kernel
theorem dX5_init_33 : decode cX5_init 33 = .ok (.putfield 22, 3) := by decide +kernel
theorem dX5_init_36 : decode cX5_init 36 = .ok (.aload_n 0, 1) := by decide +kernel
theorem dX5_init_37 : decode cX5_init 37 = .ok (.sipush 408, 3) := by decide +kernel
theorem dX5_init_40 : decode cX5_init 40 = .ok (.newarray .int, 2) := by decide +kernel
theorem dX5_init_42 : decode cX5_init 42 = .ok (.putfield 25, 3) := by decide +kernel
theorem dX5_init_45 : decode cX5_init 45 = .ok (.aload_n 0, 1) := by decide +kernel
theorem dX5_init_46 : decode cX5_init 46 = .ok (.iconst 0, 1) := by decide +kernel
theorem dX5_init_47 : decode cX5_init 47 = .ok (.putfield 28, 3) := by decide +kernel
theorem dX5_init_50 : decode cX5_init 50 = .ok (.return_, 1) := by decide +kernel
theorem dX5_numberAt_0 : decode cX5_numberAt 0 = .ok (.iload_n 1, 1) := by decide +kernel
theorem dX5_numberAt_1 : decode cX5_numberAt 1 = .ok (.aload_n 0, 1) := by decide +kernel
theorem dX5_numberAt_2 : decode cX5_numberAt 2 = .ok (.getfield 15, 3) := by decide +kernel
theorem dX5_numberAt_5 : decode cX5_numberAt 5 = .ok (.if_icmp .ge 14, 3) := by decide +kernel
theorem dX5_numberAt_8 : decode cX5_numberAt 8 = .ok (.aload_n 0, 1) := by decide +kernel
theorem dX5_numberAt_9 : decode cX5_numberAt 9 = .ok (.getfield 9, 3) := by decide +kernel
theorem dX5_numberAt_12 : decode cX5_numberAt 12 = .ok (.iload_n 1, 1) := by decide +kernel
theorem dX5_numberAt_13 : decode cX5_numberAt 13 = .ok (.invokestatic 31, 3) := by decide +kernel
theorem dX5_numberAt_16 : decode cX5_numberAt 16 = .ok (.goto 4, 3) := by decide +kernel
theorem dX5_numberAt_19 : decode cX5_numberAt 19 = .ok (.iconst (-1), 1) := by decide +kernel
theorem dX5_numberAt_20 : decode cX5_numberAt 20 = .ok (.ireturn, 1) := by decide +kernel
theorem dX5_tell_0 : decode cX5_tell 0 = .ok (.aload_n 0, 1) := by decide +kernel
theorem dX5_tell_1 : decode cX5_tell 1 = .ok (.iconst 0, 1) := by decide +kernel
theorem dX5_tell_2 : decode cX5_tell 2 = .ok (.putfield 15, 3) := by decide +kernel
theorem dX5_tell_5 : decode cX5_tell 5 = .ok (.aload_n 0, 1) := by decide +kernel
theorem dX5_tell_6 : decode cX5_tell 6 = .ok (.iconst 0, 1) := by decide +kernel
theorem dX5_tell_7 : decode cX5_tell 7 = .ok (.putfield 28, 3) := by decide +kernel
theorem dX5_tell_10 : decode cX5_tell 10 = .ok (.aload_n 0, 1) := by decide +kernel
theorem dX5_tell_11 : decode cX5_tell 11 = .ok (.iload_n 3, 1) := by decide +kernel
theorem dX5_tell_12 : decode cX5_tell 12 = .ok (.iconst (-1), 1) := by decide +kernel
theorem dX5_tell_13 : decode cX5_tell 13 = .ok (.iconst (-1), 1) := by decide +kernel
theorem dX5_tell_14 : decode cX5_tell 14 = .ok (.invokevirtual 35, 3) := by decide +kernel
theorem dX5_tell_17 : decode cX5_tell 17 = .ok (.iconst 0, 1) := by decide +kernel
theorem dX5_tell_18 : decode cX5_tell 18 = .ok (.istore 4, 2) := by decide +kernel
theorem dX5_tell_20 : decode cX5_tell 20 = .ok (.iload 4, 2) := by decide +kernel
theorem dX5_tell_22 : decode cX5_tell 22 = .ok (.sipush 800, 3) := by decide +kernel
theorem dX5_tell_25 : decode cX5_tell 25 = .ok (.if_icmp .ge 80, 3) := by decide +kernel
theorem dX5_tell_28 : decode cX5_tell 28 = .ok (.aload_n 0, 1) := by decide +kernel
theorem dX5_tell_29 : decode cX5_tell 29 = .ok (.getfield 28, 3) := by decide +kernel
theorem dX5_tell_32 : decode cX5_tell 32 = .ok (.ifCond .le 73, 3) := by decide +kernel
theorem dX5_tell_35 : decode cX5_tell 35 = .ok (.aload_n 0, 1) := by decide +kernel
theorem dX5_tell_36 : decode cX5_tell 36 = .ok (.getfield 15, 3) := by decide +kernel
theorem dX5_tell_39 : decode cX5_tell 39 = .ok (.sipush 400, 3) := by decide +kernel
theorem dX5_tell_42 : decode cX5_tell 42 = .ok (.if_icmp .ge 63, 3) := by decide +kernel
theorem dX5_tell_45 : decode cX5_tell 45 = .ok (.aload_n 0, 1) := by decide +kernel
theorem dX5_tell_46 : decode cX5_tell 46 = .ok (.dup, 1) := by decide +kernel
theorem dX5_tell_47 : decode cX5_tell 47 = .ok (.getfield 28, 3) := by decide +kernel
theorem dX5_tell_50 : decode cX5_tell 50 = .ok (.iconst 1, 1) := by decide +kernel
theorem dX5_tell_51 : decode cX5_tell 51 = .ok (.isub, 1) := by decide +kernel
theorem dX5_tell_52 : decode cX5_tell 52 = .ok (.putfield 28, 3) := by decide +kernel
theorem dX5_tell_55 : decode cX5_tell 55 = .ok (.aload_n 0, 1) := by decide +kernel
theorem dX5_tell_56 : decode cX5_tell 56 = .ok (.getfield 25, 3) := by decide +kernel
theorem dX5_tell_59 : decode cX5_tell 59 = .ok (.aload_n 0, 1) := by decide +kernel
theorem dX5_tell_60 : decode cX5_tell 60 = .ok (.getfield 28, 3) := by decide +kernel
theorem dX5_tell_63 : decode cX5_tell 63 = .ok (.invokestatic 31, 3) := by decide +kernel
theorem dX5_tell_66 : decode cX5_tell 66 = .ok (.iconst (-1), 1) := by decide +kernel
theorem dX5_tell_67 : decode cX5_tell 67 = .ok (.if_icmp .ne 22, 3) := by decide +kernel
theorem dX5_tell_70 : decode cX5_tell 70 = .ok (.aload_n 0, 1) := by decide +kernel
theorem dX5_tell_71 : decode cX5_tell 71 = .ok (.aload_n 2, 1) := by decide +kernel
theorem dX5_tell_72 : decode cX5_tell 72 = .ok (.aload_n 0, 1) := by decide +kernel
theorem dX5_tell_73 : decode cX5_tell 73 = .ok (.getfield 19, 3) := by decide +kernel
theorem dX5_tell_76 : decode cX5_tell 76 = .ok (.aload_n 0, 1) := by decide +kernel
theorem dX5_tell_77 : decode cX5_tell 77 = .ok (.getfield 28, 3) := by decide +kernel
theorem dX5_tell_80 : decode cX5_tell 80 = .ok (.invokestatic 31, 3) := by decide +kernel
theorem dX5_tell_83 : decode cX5_tell 83 = .ok (.invokevirtual 39, 3) := by decide +kernel
theorem dX5_tell_86 : decode cX5_tell 86 = .ok (.goto 13, 3) := by decide +kernel
theorem dX5_tell_89 : decode cX5_tell 89 = .ok (.aload_n 0, 1) := by decide +kernel
theorem dX5_tell_90 : decode cX5_tell 90 = .ok (.aload_n 1, 1) := by decide +kernel
theorem dX5_tell_91 : decode cX5_tell 91 = .ok (.aload_n 2, 1) := by decide +kernel
theorem dX5_tell_92 : decode cX5_tell 92 = .ok (.aload_n 0, 1) := by decide +kernel
theorem dX5_tell_93 : decode cX5_tell 93 = .ok (.getfield 28, 3) := by decide +kernel
theorem dX5_tell_96 : decode cX5_tell 96 = .ok (.invokevirtual 43, 3) := by decide +kernel
theorem dX5_tell_99 : decode cX5_tell 99 = .ok (.iinc 4 1, 3) := by decide +kernel
theorem dX5_tell_102 : decode cX5_tell 102 = .ok (.goto (-82), 3) := by decide +kernel
theorem dX5_tell_105 : decode cX5_tell 105 = .ok (.return_, 1) := by decide +kernel
theorem dX5_add_0 : decode cX5_add 0 = .ok (.aload_n 0, 1) := by decide +kernel
theorem dX5_add_1 : decode cX5_add 1 = .ok (.getfield 15, 3) := by decide +kernel
theorem dX5_add_4 : decode cX5_add 4 = .ok (.sipush 400, 3) := by decide +kernel
theorem dX5_add_7 : decode cX5_add 7 = .ok (.if_icmp .ge 23, 3) := by decide +kernel
theorem dX5_add_10 : decode cX5_add 10 = .ok (.aload_n 0, 1) := by decide +kernel
theorem dX5_add_11 : decode cX5_add 11 = .ok (.getfield 9, 3) := by decide +kernel
theorem dX5_add_14 : decode cX5_add 14 = .ok (.aload_n 0, 1) := by decide +kernel
theorem dX5_add_15 : decode cX5_add 15 = .ok (.getfield 15, 3) := by decide +kernel
theorem dX5_add_18 : decode cX5_add 18 = .ok (.iload_n 1, 1) := by decide +kernel
theorem dX5_add_19 : decode cX5_add 19 = .ok (.iastore, 1) := by decide +kernel
theorem dX5_add_20 : decode cX5_add 20 = .ok (.aload_n 0, 1) := by decide +kernel
theorem dX5_add_21 : decode cX5_add 21 = .ok (.dup, 1) := by decide +kernel
theorem dX5_add_22 : decode cX5_add 22 = .ok (.getfield 15, 3) := by decide +kernel
theorem dX5_add_25 : decode cX5_add 25 = .ok (.iconst 1, 1) := by decide +kernel
theorem dX5_add_26 : decode cX5_add 26 = .ok (.iadd, 1) := by decide +kernel
theorem dX5_add_27 : decode cX5_add 27 = .ok (.putfield 15, 3) := by decide +kernel
theorem dX5_add_30 : decode cX5_add 30 = .ok (.return_, 1) := by decide +kernel
theorem dX5_putOff_0 : decode cX5_putOff 0 = .ok (.iload_n 1, 1) := by decide +kernel
theorem dX5_putOff_1 : decode cX5_putOff 1 = .ok (.iconst (-1), 1) := by decide +kernel
theorem dX5_putOff_2 : decode cX5_putOff 2 = .ok (.if_icmp .eq 53, 3) := by decide +kernel
theorem dX5_putOff_5 : decode cX5_putOff 5 = .ok (.aload_n 0, 1) := by decide +kernel
theorem dX5_putOff_6 : decode cX5_putOff 6 = .ok (.getfield 28, 3) := by decide +kernel
theorem dX5_putOff_9 : decode cX5_putOff 9 = .ok (.sipush 408, 3) := by decide +kernel
theorem dX5_putOff_12 : decode cX5_putOff 12 = .ok (.if_icmp .ge 43, 3) := by decide +kernel
theorem dX5_putOff_15 : decode cX5_putOff 15 = .ok (.aload_n 0, 1) := by decide +kernel
theorem dX5_putOff_16 : decode cX5_putOff 16 = .ok (.getfield 19, 3) := by decide +kernel
theorem dX5_putOff_19 : decode cX5_putOff 19 = .ok (.aload_n 0, 1) := by decide +kernel
theorem dX5_putOff_20 : decode cX5_putOff 20 = .ok (.getfield 28, 3) := by decide +kernel
theorem dX5_putOff_23 : decode cX5_putOff 23 = .ok (.iload_n 1, 1) := by decide +kernel
theorem dX5_putOff_24 : decode cX5_putOff 24 = .ok (.iastore, 1) := by decide +kernel
theorem dX5_putOff_25 : decode cX5_putOff 25 = .ok (.aload_n 0, 1) := by decide +kernel
theorem dX5_putOff_26 : decode cX5_putOff 26 = .ok (.getfield 22, 3) := by decide +kernel
theorem dX5_putOff_29 : decode cX5_putOff 29 = .ok (.aload_n 0, 1) := by decide +kernel
theorem dX5_putOff_30 : decode cX5_putOff 30 = .ok (.getfield 28, 3) := by decide +kernel
theorem dX5_putOff_33 : decode cX5_putOff 33 = .ok (.iload_n 2, 1) := by decide +kernel
theorem dX5_putOff_34 : decode cX5_putOff 34 = .ok (.iastore, 1) := by decide +kernel
theorem dX5_putOff_35 : decode cX5_putOff 35 = .ok (.aload_n 0, 1) := by decide +kernel
theorem dX5_putOff_36 : decode cX5_putOff 36 = .ok (.getfield 25, 3) := by decide +kernel
theorem dX5_putOff_39 : decode cX5_putOff 39 = .ok (.aload_n 0, 1) := by decide +kernel
theorem dX5_putOff_40 : decode cX5_putOff 40 = .ok (.getfield 28, 3) := by decide +kernel
theorem dX5_putOff_43 : decode cX5_putOff 43 = .ok (.iload_n 3, 1) := by decide +kernel
theorem dX5_putOff_44 : decode cX5_putOff 44 = .ok (.iastore, 1) := by decide +kernel
theorem dX5_putOff_45 : decode cX5_putOff 45 = .ok (.aload_n 0, 1) := by decide +kernel
theorem dX5_putOff_46 : decode cX5_putOff 46 = .ok (.dup, 1) := by decide +kernel
theorem dX5_putOff_47 : decode cX5_putOff 47 = .ok (.getfield 28, 3) := by decide +kernel
theorem dX5_putOff_50 : decode cX5_putOff 50 = .ok (.iconst 1, 1) := by decide +kernel
theorem dX5_putOff_51 : decode cX5_putOff 51 = .ok (.iadd, 1) := by decide +kernel
theorem dX5_putOff_52 : decode cX5_putOff 52 = .ok (.putfield 28, 3) := by decide +kernel
theorem dX5_putOff_55 : decode cX5_putOff 55 = .ok (.return_, 1) := by decide +kernel
theorem dX5_tellValue_0 : decode cX5_tellValue 0 = .ok (.aload_n 1, 1) := by decide +kernel
theorem dX5_tellValue_1 : decode cX5_tellValue 1 = .ok (.getfield 47, 3) := by decide +kernel
theorem dX5_tellValue_4 : decode cX5_tellValue 4 = .ok (.iload_n 2, 1) := by decide +kernel
theorem dX5_tellValue_5 : decode cX5_tellValue 5 = .ok (.invokestatic 31, 3) := by decide +kernel
theorem dX5_tellValue_8 : decode cX5_tellValue 8 = .ok (.istore_n 3, 1) := by decide +kernel
theorem dX5_tellValue_9 : decode cX5_tellValue 9 = .ok (.iload_n 3, 1) := by decide +kernel
theorem dX5_tellValue_10 : decode cX5_tellValue 10 = .ok (.tableswitch 93 4 6 #[26, 55, 84], 26) := by decide +kernel
theorem dX5_tellValue_36 : decode cX5_tellValue 36 = .ok (.aload_n 0, 1) := by decide +kernel
theorem dX5_tellValue_37 : decode cX5_tellValue 37 = .ok (.iconst 1, 1) := by decide +kernel
theorem dX5_tellValue_38 : decode cX5_tellValue 38 = .ok (.invokevirtual 52, 3) := by decide +kernel
theorem dX5_tellValue_41 : decode cX5_tellValue 41 = .ok (.aload_n 0, 1) := by decide +kernel
theorem dX5_tellValue_42 : decode cX5_tellValue 42 = .ok (.aload_n 1, 1) := by decide +kernel
theorem dX5_tellValue_43 : decode cX5_tellValue 43 = .ok (.getfield 56, 3) := by decide +kernel
theorem dX5_tellValue_46 : decode cX5_tellValue 46 = .ok (.iload_n 2, 1) := by decide +kernel
theorem dX5_tellValue_47 : decode cX5_tellValue 47 = .ok (.invokestatic 31, 3) := by decide +kernel
theorem dX5_tellValue_50 : decode cX5_tellValue 50 = .ok (.aload_n 1, 1) := by decide +kernel
theorem dX5_tellValue_51 : decode cX5_tellValue 51 = .ok (.getfield 59, 3) := by decide +kernel
theorem dX5_tellValue_54 : decode cX5_tellValue 54 = .ok (.iload_n 2, 1) := by decide +kernel
theorem dX5_tellValue_55 : decode cX5_tellValue 55 = .ok (.invokestatic 31, 3) := by decide +kernel
theorem dX5_tellValue_58 : decode cX5_tellValue 58 = .ok (.iconst 0, 1) := by decide +kernel
theorem dX5_tellValue_59 : decode cX5_tellValue 59 = .ok (.invokevirtual 35, 3) := by decide +kernel
theorem dX5_tellValue_62 : decode cX5_tellValue 62 = .ok (.goto 54, 3) := by decide +kernel
theorem dX5_tellValue_65 : decode cX5_tellValue 65 = .ok (.aload_n 0, 1) := by decide +kernel
theorem dX5_tellValue_66 : decode cX5_tellValue 66 = .ok (.iconst 2, 1) := by decide +kernel
theorem dX5_tellValue_67 : decode cX5_tellValue 67 = .ok (.invokevirtual 52, 3) := by decide +kernel
theorem dX5_tellValue_70 : decode cX5_tellValue 70 = .ok (.aload_n 0, 1) := by decide +kernel
theorem dX5_tellValue_71 : decode cX5_tellValue 71 = .ok (.aload_n 1, 1) := by decide +kernel
theorem dX5_tellValue_72 : decode cX5_tellValue 72 = .ok (.getfield 56, 3) := by decide +kernel
theorem dX5_tellValue_75 : decode cX5_tellValue 75 = .ok (.iload_n 2, 1) := by decide +kernel
theorem dX5_tellValue_76 : decode cX5_tellValue 76 = .ok (.invokestatic 31, 3) := by decide +kernel
theorem dX5_tellValue_79 : decode cX5_tellValue 79 = .ok (.aload_n 1, 1) := by decide +kernel
theorem dX5_tellValue_80 : decode cX5_tellValue 80 = .ok (.getfield 59, 3) := by decide +kernel
theorem dX5_tellValue_83 : decode cX5_tellValue 83 = .ok (.iload_n 2, 1) := by decide +kernel
theorem dX5_tellValue_84 : decode cX5_tellValue 84 = .ok (.invokestatic 31, 3) := by decide +kernel
theorem dX5_tellValue_87 : decode cX5_tellValue 87 = .ok (.iconst 1, 1) := by decide +kernel
theorem dX5_tellValue_88 : decode cX5_tellValue 88 = .ok (.invokevirtual 35, 3) := by decide +kernel
theorem dX5_tellValue_91 : decode cX5_tellValue 91 = .ok (.goto 25, 3) := by decide +kernel
theorem dX5_tellValue_94 : decode cX5_tellValue 94 = .ok (.aload_n 0, 1) := by decide +kernel
theorem dX5_tellValue_95 : decode cX5_tellValue 95 = .ok (.aload_n 1, 1) := by decide +kernel
theorem dX5_tellValue_96 : decode cX5_tellValue 96 = .ok (.iload_n 2, 1) := by decide +kernel
theorem dX5_tellValue_97 : decode cX5_tellValue 97 = .ok (.invokevirtual 62, 3) := by decide +kernel
theorem dX5_tellValue_100 : decode cX5_tellValue 100 = .ok (.goto 16, 3) := by decide +kernel
theorem dX5_tellValue_103 : decode cX5_tellValue 103 = .ok (.aload_n 0, 1) := by decide +kernel
theorem dX5_tellValue_104 : decode cX5_tellValue 104 = .ok (.iload_n 3, 1) := by decide +kernel
theorem dX5_tellValue_105 : decode cX5_tellValue 105 = .ok (.aload_n 1, 1) := by decide +kernel
theorem dX5_tellValue_106 : decode cX5_tellValue 106 = .ok (.getfield 65, 3) := by decide +kernel
theorem dX5_tellValue_109 : decode cX5_tellValue 109 = .ok (.iload_n 2, 1) := by decide +kernel
theorem dX5_tellValue_110 : decode cX5_tellValue 110 = .ok (.invokestatic 69, 3) := by decide +kernel
theorem dX5_tellValue_113 : decode cX5_tellValue 113 = .ok (.invokevirtual 73, 3) := by decide +kernel
theorem dX5_tellValue_116 : decode cX5_tellValue 116 = .ok (.return_, 1) := by decide +kernel
theorem dX5_tellPartial_0 : decode cX5_tellPartial 0 = .ok (.aload_n 1, 1) := by decide +kernel
theorem dX5_tellPartial_1 : decode cX5_tellPartial 1 = .ok (.iload_n 2, 1) := by decide +kernel
theorem dX5_tellPartial_2 : decode cX5_tellPartial 2 = .ok (.invokevirtual 77, 3) := by decide +kernel
theorem dX5_tellPartial_5 : decode cX5_tellPartial 5 = .ok (.istore_n 3, 1) := by decide +kernel
theorem dX5_tellPartial_6 : decode cX5_tellPartial 6 = .ok (.aload_n 1, 1) := by decide +kernel
theorem dX5_tellPartial_7 : decode cX5_tellPartial 7 = .ok (.getfield 81, 3) := by decide +kernel
theorem dX5_tellPartial_10 : decode cX5_tellPartial 10 = .ok (.iload_n 2, 1) := by decide +kernel
theorem dX5_tellPartial_11 : decode cX5_tellPartial 11 = .ok (.invokestatic 31, 3) := by decide +kernel
theorem dX5_tellPartial_14 : decode cX5_tellPartial 14 = .ok (.istore 4, 2) := by decide +kernel
theorem dX5_tellPartial_16 : decode cX5_tellPartial 16 = .ok (.iload 4, 2) := by decide +kernel
theorem dX5_tellPartial_18 : decode cX5_tellPartial 18 = .ok (.getstatic 84, 3) := by decide +kernel
theorem dX5_tellPartial_21 : decode cX5_tellPartial 21 = .ok (.iload_n 3, 1) := by decide +kernel
theorem dX5_tellPartial_22 : decode cX5_tellPartial 22 = .ok (.invokestatic 31, 3) := by decide +kernel
theorem dX5_tellPartial_25 : decode cX5_tellPartial 25 = .ok (.invokestatic 87, 3) := by decide +kernel
theorem dX5_tellPartial_28 : decode cX5_tellPartial 28 = .ok (.istore 5, 2) := by decide +kernel
theorem dX5_tellPartial_30 : decode cX5_tellPartial 30 = .ok (.iload 4, 2) := by decide +kernel
theorem dX5_tellPartial_32 : decode cX5_tellPartial 32 = .ok (.iload 5, 2) := by decide +kernel
theorem dX5_tellPartial_34 : decode cX5_tellPartial 34 = .ok (.isub, 1) := by decide +kernel
theorem dX5_tellPartial_35 : decode cX5_tellPartial 35 = .ok (.istore 6, 2) := by decide +kernel
theorem dX5_tellPartial_37 : decode cX5_tellPartial 37 = .ok (.iconst 0, 1) := by decide +kernel
theorem dX5_tellPartial_38 : decode cX5_tellPartial 38 = .ok (.istore 7, 2) := by decide +kernel
theorem dX5_tellPartial_40 : decode cX5_tellPartial 40 = .ok (.iload 7, 2) := by decide +kernel
theorem dX5_tellPartial_42 : decode cX5_tellPartial 42 = .ok (.iload 6, 2) := by decide +kernel
theorem dX5_tellPartial_44 : decode cX5_tellPartial 44 = .ok (.if_icmp .ge 14, 3) := by decide +kernel
theorem dX5_tellPartial_47 : decode cX5_tellPartial 47 = .ok (.aload_n 0, 1) := by decide +kernel
theorem dX5_tellPartial_48 : decode cX5_tellPartial 48 = .ok (.iconst 3, 1) := by decide +kernel
theorem dX5_tellPartial_49 : decode cX5_tellPartial 49 = .ok (.invokevirtual 52, 3) := by decide +kernel
theorem dX5_tellPartial_52 : decode cX5_tellPartial 52 = .ok (.iinc 7 1, 3) := by decide +kernel
theorem dX5_tellPartial_55 : decode cX5_tellPartial 55 = .ok (.goto (-15), 3) := by decide +kernel
theorem dX5_tellPartial_58 : decode cX5_tellPartial 58 = .ok (.iconst 0, 1) := by decide +kernel
theorem dX5_tellPartial_59 : decode cX5_tellPartial 59 = .ok (.istore 7, 2) := by decide +kernel
theorem dX5_tellPartial_61 : decode cX5_tellPartial 61 = .ok (.iload 7, 2) := by decide +kernel
theorem dX5_tellPartial_63 : decode cX5_tellPartial 63 = .ok (.iload 5, 2) := by decide +kernel
theorem dX5_tellPartial_65 : decode cX5_tellPartial 65 = .ok (.if_icmp .ge 14, 3) := by decide +kernel
theorem dX5_tellPartial_68 : decode cX5_tellPartial 68 = .ok (.aload_n 0, 1) := by decide +kernel
theorem dX5_tellPartial_69 : decode cX5_tellPartial 69 = .ok (.iconst 5, 1) := by decide +kernel
theorem dX5_tellPartial_70 : decode cX5_tellPartial 70 = .ok (.invokevirtual 52, 3) := by decide +kernel
theorem dX5_tellPartial_73 : decode cX5_tellPartial 73 = .ok (.iinc 7 1, 3) := by decide +kernel
theorem dX5_tellPartial_76 : decode cX5_tellPartial 76 = .ok (.goto (-15), 3) := by decide +kernel
theorem dX5_tellPartial_79 : decode cX5_tellPartial 79 = .ok (.aload_n 0, 1) := by decide +kernel
theorem dX5_tellPartial_80 : decode cX5_tellPartial 80 = .ok (.bipush 7, 2) := by decide +kernel
theorem dX5_tellPartial_82 : decode cX5_tellPartial 82 = .ok (.invokevirtual 52, 3) := by decide +kernel
theorem dX5_tellPartial_85 : decode cX5_tellPartial 85 = .ok (.aload_n 0, 1) := by decide +kernel
theorem dX5_tellPartial_86 : decode cX5_tellPartial 86 = .ok (.iload_n 3, 1) := by decide +kernel
theorem dX5_tellPartial_87 : decode cX5_tellPartial 87 = .ok (.invokevirtual 52, 3) := by decide +kernel
theorem dX5_tellPartial_90 : decode cX5_tellPartial 90 = .ok (.iload_n 2, 1) := by decide +kernel
theorem dX5_tellPartial_91 : decode cX5_tellPartial 91 = .ok (.istore 7, 2) := by decide +kernel
theorem dX5_tellPartial_93 : decode cX5_tellPartial 93 = .ok (.iconst 0, 1) := by decide +kernel
theorem dX5_tellPartial_94 : decode cX5_tellPartial 94 = .ok (.istore 8, 2) := by decide +kernel
theorem dX5_tellPartial_96 : decode cX5_tellPartial 96 = .ok (.iload 8, 2) := by decide +kernel
theorem dX5_tellPartial_98 : decode cX5_tellPartial 98 = .ok (.iload 6, 2) := by decide +kernel
theorem dX5_tellPartial_100 : decode cX5_tellPartial 100 = .ok (.if_icmp .ge 35, 3) := by decide +kernel
theorem dX5_tellPartial_103 : decode cX5_tellPartial 103 = .ok (.aload_n 0, 1) := by decide +kernel
theorem dX5_tellPartial_104 : decode cX5_tellPartial 104 = .ok (.aload_n 1, 1) := by decide +kernel
theorem dX5_tellPartial_105 : decode cX5_tellPartial 105 = .ok (.getfield 56, 3) := by decide +kernel
theorem dX5_tellPartial_108 : decode cX5_tellPartial 108 = .ok (.iload 7, 2) := by decide +kernel
theorem dX5_tellPartial_110 : decode cX5_tellPartial 110 = .ok (.invokestatic 31, 3) := by decide +kernel
theorem dX5_tellPartial_113 : decode cX5_tellPartial 113 = .ok (.iconst (-1), 1) := by decide +kernel
theorem dX5_tellPartial_114 : decode cX5_tellPartial 114 = .ok (.iconst (-1), 1) := by decide +kernel
theorem dX5_tellPartial_115 : decode cX5_tellPartial 115 = .ok (.invokevirtual 35, 3) := by decide +kernel
theorem dX5_tellPartial_118 : decode cX5_tellPartial 118 = .ok (.aload_n 1, 1) := by decide +kernel
theorem dX5_tellPartial_119 : decode cX5_tellPartial 119 = .ok (.getfield 59, 3) := by decide +kernel
theorem dX5_tellPartial_122 : decode cX5_tellPartial 122 = .ok (.iload 7, 2) := by decide +kernel
theorem dX5_tellPartial_124 : decode cX5_tellPartial 124 = .ok (.invokestatic 31, 3) := by decide +kernel
theorem dX5_tellPartial_127 : decode cX5_tellPartial 127 = .ok (.istore 7, 2) := by decide +kernel
theorem dX5_tellPartial_129 : decode cX5_tellPartial 129 = .ok (.iinc 8 1, 3) := by decide +kernel
theorem dX5_tellPartial_132 : decode cX5_tellPartial 132 = .ok (.goto (-36), 3) := by decide +kernel
theorem dX5_tellPartial_135 : decode cX5_tellPartial 135 = .ok (.return_, 1) := by decide +kernel
theorem dX5_tellTerm_0 : decode cX5_tellTerm 0 = .ok (.aload_n 0, 1) := by decide +kernel
theorem dX5_tellTerm_1 : decode cX5_tellTerm 1 = .ok (.getfield 19, 3) := by decide +kernel
theorem dX5_tellTerm_4 : decode cX5_tellTerm 4 = .ok (.iload_n 3, 1) := by decide +kernel
theorem dX5_tellTerm_5 : decode cX5_tellTerm 5 = .ok (.invokestatic 31, 3) := by decide +kernel
theorem dX5_tellTerm_8 : decode cX5_tellTerm 8 = .ok (.istore 4, 2) := by decide +kernel
theorem dX5_tellTerm_10 : decode cX5_tellTerm 10 = .ok (.aload_n 0, 1) := by decide +kernel
theorem dX5_tellTerm_11 : decode cX5_tellTerm 11 = .ok (.getfield 22, 3) := by decide +kernel
theorem dX5_tellTerm_14 : decode cX5_tellTerm 14 = .ok (.iload_n 3, 1) := by decide +kernel
theorem dX5_tellTerm_15 : decode cX5_tellTerm 15 = .ok (.invokestatic 31, 3) := by decide +kernel
theorem dX5_tellTerm_18 : decode cX5_tellTerm 18 = .ok (.istore 5, 2) := by decide +kernel
theorem dX5_tellTerm_20 : decode cX5_tellTerm 20 = .ok (.aload_n 0, 1) := by decide +kernel
theorem dX5_tellTerm_21 : decode cX5_tellTerm 21 = .ok (.getfield 25, 3) := by decide +kernel
theorem dX5_tellTerm_24 : decode cX5_tellTerm 24 = .ok (.iload_n 3, 1) := by decide +kernel
theorem dX5_tellTerm_25 : decode cX5_tellTerm 25 = .ok (.invokestatic 31, 3) := by decide +kernel
theorem dX5_tellTerm_28 : decode cX5_tellTerm 28 = .ok (.istore 6, 2) := by decide +kernel
theorem dX5_tellTerm_30 : decode cX5_tellTerm 30 = .ok (.aload_n 1, 1) := by decide +kernel
theorem dX5_tellTerm_31 : decode cX5_tellTerm 31 = .ok (.getfield 93, 3) := by decide +kernel
theorem dX5_tellTerm_34 : decode cX5_tellTerm 34 = .ok (.iload 4, 2) := by decide +kernel
theorem dX5_tellTerm_36 : decode cX5_tellTerm 36 = .ok (.invokestatic 31, 3) := by decide +kernel
theorem dX5_tellTerm_39 : decode cX5_tellTerm 39 = .ok (.istore 7, 2) := by decide +kernel
theorem dX5_tellTerm_41 : decode cX5_tellTerm 41 = .ok (.aload_n 1, 1) := by decide +kernel
theorem dX5_tellTerm_42 : decode cX5_tellTerm 42 = .ok (.getfield 96, 3) := by decide +kernel
theorem dX5_tellTerm_45 : decode cX5_tellTerm 45 = .ok (.iload 4, 2) := by decide +kernel
theorem dX5_tellTerm_47 : decode cX5_tellTerm 47 = .ok (.invokestatic 31, 3) := by decide +kernel
theorem dX5_tellTerm_50 : decode cX5_tellTerm 50 = .ok (.istore 8, 2) := by decide +kernel
theorem dX5_tellTerm_52 : decode cX5_tellTerm 52 = .ok (.aload_n 1, 1) := by decide +kernel
theorem dX5_tellTerm_53 : decode cX5_tellTerm 53 = .ok (.getfield 99, 3) := by decide +kernel
theorem dX5_tellTerm_56 : decode cX5_tellTerm 56 = .ok (.iload 4, 2) := by decide +kernel
theorem dX5_tellTerm_58 : decode cX5_tellTerm 58 = .ok (.invokestatic 69, 3) := by decide +kernel
theorem dX5_tellTerm_61 : decode cX5_tellTerm 61 = .ok (.lstore 9, 2) := by decide +kernel
theorem dX5_tellTerm_63 : decode cX5_tellTerm 63 = .ok (.iload 7, 2) := by decide +kernel
theorem dX5_tellTerm_65 : decode cX5_tellTerm 65 = .ok (.tableswitch 165 0 7 #[47, 130, 109, 73, 62, 130, 165, 149], 47) := by decide +kernel
theorem dX5_tellTerm_112 : decode cX5_tellTerm 112 = .ok (.aload_n 0, 1) := by decide +kernel
theorem dX5_tellTerm_113 : decode cX5_tellTerm 113 = .ok (.aload_n 2, 1) := by decide +kernel
theorem dX5_tellTerm_114 : decode cX5_tellTerm 114 = .ok (.lload 9, 2) := by decide +kernel
theorem dX5_tellTerm_116 : decode cX5_tellTerm 116 = .ok (.l2i, 1) := by decide +kernel
theorem dX5_tellTerm_117 : decode cX5_tellTerm 117 = .ok (.iload 5, 2) := by decide +kernel
theorem dX5_tellTerm_119 : decode cX5_tellTerm 119 = .ok (.iload 6, 2) := by decide +kernel
theorem dX5_tellTerm_121 : decode cX5_tellTerm 121 = .ok (.invokevirtual 100, 3) := by decide +kernel
theorem dX5_tellTerm_124 : decode cX5_tellTerm 124 = .ok (.goto 112, 3) := by decide +kernel
theorem dX5_tellTerm_127 : decode cX5_tellTerm 127 = .ok (.aload_n 0, 1) := by decide +kernel
theorem dX5_tellTerm_128 : decode cX5_tellTerm 128 = .ok (.iload 8, 2) := by decide +kernel
theorem dX5_tellTerm_130 : decode cX5_tellTerm 130 = .ok (.lload 9, 2) := by decide +kernel
theorem dX5_tellTerm_132 : decode cX5_tellTerm 132 = .ok (.invokevirtual 73, 3) := by decide +kernel
theorem dX5_tellTerm_135 : decode cX5_tellTerm 135 = .ok (.goto 101, 3) := by decide +kernel
theorem dX5_tellTerm_138 : decode cX5_tellTerm 138 = .ok (.aload_n 0, 1) := by decide +kernel
theorem dX5_tellTerm_139 : decode cX5_tellTerm 139 = .ok (.iload 7, 2) := by decide +kernel
theorem dX5_tellTerm_141 : decode cX5_tellTerm 141 = .ok (.invokevirtual 52, 3) := by decide +kernel
theorem dX5_tellTerm_144 : decode cX5_tellTerm 144 = .ok (.aload_n 0, 1) := by decide +kernel
theorem dX5_tellTerm_145 : decode cX5_tellTerm 145 = .ok (.aload_n 1, 1) := by decide +kernel
theorem dX5_tellTerm_146 : decode cX5_tellTerm 146 = .ok (.getfield 104, 3) := by decide +kernel
theorem dX5_tellTerm_149 : decode cX5_tellTerm 149 = .ok (.iload 4, 2) := by decide +kernel
theorem dX5_tellTerm_151 : decode cX5_tellTerm 151 = .ok (.invokestatic 31, 3) := by decide +kernel
theorem dX5_tellTerm_154 : decode cX5_tellTerm 154 = .ok (.iload 5, 2) := by decide +kernel
theorem dX5_tellTerm_156 : decode cX5_tellTerm 156 = .ok (.iload 6, 2) := by decide +kernel
theorem dX5_tellTerm_158 : decode cX5_tellTerm 158 = .ok (.invokevirtual 35, 3) := by decide +kernel
theorem dX5_tellTerm_161 : decode cX5_tellTerm 161 = .ok (.aload_n 0, 1) := by decide +kernel
theorem dX5_tellTerm_162 : decode cX5_tellTerm 162 = .ok (.iload 8, 2) := by decide +kernel
theorem dX5_tellTerm_164 : decode cX5_tellTerm 164 = .ok (.iload 5, 2) := by decide +kernel
theorem dX5_tellTerm_166 : decode cX5_tellTerm 166 = .ok (.iload 6, 2) := by decide +kernel
theorem dX5_tellTerm_168 : decode cX5_tellTerm 168 = .ok (.invokevirtual 35, 3) := by decide +kernel
theorem dX5_tellTerm_171 : decode cX5_tellTerm 171 = .ok (.goto 65, 3) := by decide +kernel
theorem dX5_tellTerm_174 : decode cX5_tellTerm 174 = .ok (.aload_n 0, 1) := by decide +kernel
theorem dX5_tellTerm_175 : decode cX5_tellTerm 175 = .ok (.iload 7, 2) := by decide +kernel
theorem dX5_tellTerm_177 : decode cX5_tellTerm 177 = .ok (.invokevirtual 52, 3) := by decide +kernel
theorem dX5_tellTerm_180 : decode cX5_tellTerm 180 = .ok (.aload_n 0, 1) := by decide +kernel
theorem dX5_tellTerm_181 : decode cX5_tellTerm 181 = .ok (.iload 8, 2) := by decide +kernel
theorem dX5_tellTerm_183 : decode cX5_tellTerm 183 = .ok (.iload 5, 2) := by decide +kernel
theorem dX5_tellTerm_185 : decode cX5_tellTerm 185 = .ok (.iload 6, 2) := by decide +kernel
theorem dX5_tellTerm_187 : decode cX5_tellTerm 187 = .ok (.iconst 1, 1) := by decide +kernel
theorem dX5_tellTerm_188 : decode cX5_tellTerm 188 = .ok (.iadd, 1) := by decide +kernel
theorem dX5_tellTerm_189 : decode cX5_tellTerm 189 = .ok (.invokevirtual 35, 3) := by decide +kernel
theorem dX5_tellTerm_192 : decode cX5_tellTerm 192 = .ok (.goto 44, 3) := by decide +kernel
theorem dX5_tellTerm_195 : decode cX5_tellTerm 195 = .ok (.aload_n 0, 1) := by decide +kernel
theorem dX5_tellTerm_196 : decode cX5_tellTerm 196 = .ok (.iload 7, 2) := by decide +kernel
theorem dX5_tellTerm_198 : decode cX5_tellTerm 198 = .ok (.invokevirtual 52, 3) := by decide +kernel
theorem dX5_tellTerm_201 : decode cX5_tellTerm 201 = .ok (.aload_n 0, 1) := by decide +kernel
theorem dX5_tellTerm_202 : decode cX5_tellTerm 202 = .ok (.iload 8, 2) := by decide +kernel
theorem dX5_tellTerm_204 : decode cX5_tellTerm 204 = .ok (.iload 5, 2) := by decide +kernel
theorem dX5_tellTerm_206 : decode cX5_tellTerm 206 = .ok (.iload 6, 2) := by decide +kernel
theorem dX5_tellTerm_208 : decode cX5_tellTerm 208 = .ok (.invokevirtual 35, 3) := by decide +kernel
theorem dX5_tellTerm_211 : decode cX5_tellTerm 211 = .ok (.goto 25, 3) := by decide +kernel
theorem dX5_tellTerm_214 : decode cX5_tellTerm 214 = .ok (.aload_n 0, 1) := by decide +kernel
theorem dX5_tellTerm_215 : decode cX5_tellTerm 215 = .ok (.iload 7, 2) := by decide +kernel
theorem dX5_tellTerm_217 : decode cX5_tellTerm 217 = .ok (.invokevirtual 52, 3) := by decide +kernel
theorem dX5_tellTerm_220 : decode cX5_tellTerm 220 = .ok (.aload_n 0, 1) := by decide +kernel
theorem dX5_tellTerm_221 : decode cX5_tellTerm 221 = .ok (.lload 9, 2) := by decide +kernel
theorem dX5_tellTerm_223 : decode cX5_tellTerm 223 = .ok (.l2i, 1) := by decide +kernel
theorem dX5_tellTerm_224 : decode cX5_tellTerm 224 = .ok (.invokevirtual 52, 3) := by decide +kernel
theorem dX5_tellTerm_227 : decode cX5_tellTerm 227 = .ok (.goto 9, 3) := by decide +kernel
theorem dX5_tellTerm_230 : decode cX5_tellTerm 230 = .ok (.aload_n 0, 1) := by decide +kernel
theorem dX5_tellTerm_231 : decode cX5_tellTerm 231 = .ok (.iload 7, 2) := by decide +kernel
theorem dX5_tellTerm_233 : decode cX5_tellTerm 233 = .ok (.invokevirtual 52, 3) := by decide +kernel
theorem dX5_tellTerm_236 : decode cX5_tellTerm 236 = .ok (.return_, 1) := by decide +kernel
theorem dX5_tellVariable_0 : decode cX5_tellVariable 0 = .ok (.iload_n 2, 1) := by decide +kernel
theorem dX5_tellVariable_1 : decode cX5_tellVariable 1 = .ok (.iload 4, 2) := by decide +kernel
theorem dX5_tellVariable_3 : decode cX5_tellVariable 3 = .ok (.if_icmp .le 21, 3) := by decide +kernel
theorem dX5_tellVariable_6 : decode cX5_tellVariable 6 = .ok (.aload_n 0, 1) := by decide +kernel
theorem dX5_tellVariable_7 : decode cX5_tellVariable 7 = .ok (.aload_n 1, 1) := by decide +kernel
theorem dX5_tellVariable_8 : decode cX5_tellVariable 8 = .ok (.iload_n 3, 1) := by decide +kernel
theorem dX5_tellVariable_9 : decode cX5_tellVariable 9 = .ok (.iload_n 2, 1) := by decide +kernel
theorem dX5_tellVariable_10 : decode cX5_tellVariable 10 = .ok (.iload 4, 2) := by decide +kernel
theorem dX5_tellVariable_12 : decode cX5_tellVariable 12 = .ok (.isub, 1) := by decide +kernel
theorem dX5_tellVariable_13 : decode cX5_tellVariable 13 = .ok (.invokevirtual 107, 3) := by decide +kernel
theorem dX5_tellVariable_16 : decode cX5_tellVariable 16 = .ok (.iconst (-1), 1) := by decide +kernel
theorem dX5_tellVariable_17 : decode cX5_tellVariable 17 = .ok (.iconst (-1), 1) := by decide +kernel
theorem dX5_tellVariable_18 : decode cX5_tellVariable 18 = .ok (.invokevirtual 35, 3) := by decide +kernel
theorem dX5_tellVariable_21 : decode cX5_tellVariable 21 = .ok (.goto 13, 3) := by decide +kernel
theorem dX5_tellVariable_24 : decode cX5_tellVariable 24 = .ok (.aload_n 0, 1) := by decide +kernel
theorem dX5_tellVariable_25 : decode cX5_tellVariable 25 = .ok (.iconst 0, 1) := by decide +kernel
theorem dX5_tellVariable_26 : decode cX5_tellVariable 26 = .ok (.invokevirtual 52, 3) := by decide +kernel
theorem dX5_tellVariable_29 : decode cX5_tellVariable 29 = .ok (.aload_n 0, 1) := by decide +kernel
theorem dX5_tellVariable_30 : decode cX5_tellVariable 30 = .ok (.iload_n 2, 1) := by decide +kernel
theorem dX5_tellVariable_31 : decode cX5_tellVariable 31 = .ok (.invokevirtual 52, 3) := by decide +kernel
theorem dX5_tellVariable_34 : decode cX5_tellVariable 34 = .ok (.return_, 1) := by decide +kernel
theorem dX5_tellConstant_0 : decode cX5_tellConstant 0 = .ok (.aload_n 0, 1) := by decide +kernel
theorem dX5_tellConstant_1 : decode cX5_tellConstant 1 = .ok (.iconst 4, 1) := by decide +kernel
theorem dX5_tellConstant_2 : decode cX5_tellConstant 2 = .ok (.invokevirtual 52, 3) := by decide +kernel
theorem dX5_tellConstant_5 : decode cX5_tellConstant 5 = .ok (.aload_n 0, 1) := by decide +kernel
theorem dX5_tellConstant_6 : decode cX5_tellConstant 6 = .ok (.iload_n 1, 1) := by decide +kernel
theorem dX5_tellConstant_7 : decode cX5_tellConstant 7 = .ok (.invokevirtual 52, 3) := by decide +kernel
theorem dX5_tellConstant_10 : decode cX5_tellConstant 10 = .ok (.iload_n 1, 1) := by decide +kernel
theorem dX5_tellConstant_11 : decode cX5_tellConstant 11 = .ok (.ifCond .eq 8, 3) := by decide +kernel
theorem dX5_tellConstant_14 : decode cX5_tellConstant 14 = .ok (.iload_n 1, 1) := by decide +kernel
theorem dX5_tellConstant_15 : decode cX5_tellConstant 15 = .ok (.iconst 1, 1) := by decide +kernel
theorem dX5_tellConstant_16 : decode cX5_tellConstant 16 = .ok (.if_icmp .ne 12, 3) := by decide +kernel
theorem dX5_tellConstant_19 : decode cX5_tellConstant 19 = .ok (.aload_n 0, 1) := by decide +kernel
theorem dX5_tellConstant_20 : decode cX5_tellConstant 20 = .ok (.lload_n 2, 1) := by decide +kernel
theorem dX5_tellConstant_21 : decode cX5_tellConstant 21 = .ok (.l2i, 1) := by decide +kernel
theorem dX5_tellConstant_22 : decode cX5_tellConstant 22 = .ok (.invokevirtual 52, 3) := by decide +kernel
theorem dX5_tellConstant_25 : decode cX5_tellConstant 25 = .ok (.goto 48, 3) := by decide +kernel
theorem dX5_tellConstant_28 : decode cX5_tellConstant 28 = .ok (.iload_n 1, 1) := by decide +kernel
theorem dX5_tellConstant_29 : decode cX5_tellConstant 29 = .ok (.iconst 3, 1) := by decide +kernel
theorem dX5_tellConstant_30 : decode cX5_tellConstant 30 = .ok (.if_icmp .ne 43, 3) := by decide +kernel
theorem dX5_tellConstant_33 : decode cX5_tellConstant 33 = .ok (.lload_n 2, 1) := by decide +kernel
theorem dX5_tellConstant_34 : decode cX5_tellConstant 34 = .ok (.invokestatic 110, 3) := by decide +kernel
theorem dX5_tellConstant_37 : decode cX5_tellConstant 37 = .ok (.istore 4, 2) := by decide +kernel
theorem dX5_tellConstant_39 : decode cX5_tellConstant 39 = .ok (.aload_n 0, 1) := by decide +kernel
theorem dX5_tellConstant_40 : decode cX5_tellConstant 40 = .ok (.iload 4, 2) := by decide +kernel
theorem dX5_tellConstant_42 : decode cX5_tellConstant 42 = .ok (.invokevirtual 52, 3) := by decide +kernel
theorem dX5_tellConstant_45 : decode cX5_tellConstant 45 = .ok (.iconst 0, 1) := by decide +kernel
theorem dX5_tellConstant_46 : decode cX5_tellConstant 46 = .ok (.istore 5, 2) := by decide +kernel
theorem dX5_tellConstant_48 : decode cX5_tellConstant 48 = .ok (.iload 5, 2) := by decide +kernel
theorem dX5_tellConstant_50 : decode cX5_tellConstant 50 = .ok (.iload 4, 2) := by decide +kernel
theorem dX5_tellConstant_52 : decode cX5_tellConstant 52 = .ok (.if_icmp .ge 21, 3) := by decide +kernel
theorem dX5_tellConstant_55 : decode cX5_tellConstant 55 = .ok (.aload_n 0, 1) := by decide +kernel
theorem dX5_tellConstant_56 : decode cX5_tellConstant 56 = .ok (.lload_n 2, 1) := by decide +kernel
theorem dX5_tellConstant_57 : decode cX5_tellConstant 57 = .ok (.iload 4, 2) := by decide +kernel
theorem dX5_tellConstant_59 : decode cX5_tellConstant 59 = .ok (.iload 5, 2) := by decide +kernel
theorem dX5_tellConstant_61 : decode cX5_tellConstant 61 = .ok (.invokestatic 116, 3) := by decide +kernel
theorem dX5_tellConstant_64 : decode cX5_tellConstant 64 = .ok (.invokevirtual 52, 3) := by decide +kernel
theorem dX5_tellConstant_67 : decode cX5_tellConstant 67 = .ok (.iinc 5 1, 3) := by decide +kernel
theorem dX5_tellConstant_70 : decode cX5_tellConstant 70 = .ok (.goto (-22), 3) := by decide +kernel
theorem dX5_tellConstant_73 : decode cX5_tellConstant 73 = .ok (.return_, 1) := by decide +kernel
theorem dX6_init_0 : decode cX6_init 0 = .ok (.aload_n 0, 1) := by decide +kernel
theorem dX6_init_1 : decode cX6_init 1 = .ok (.invokespecial 3, 3) := by decide +kernel
theorem dX6_init_4 : decode cX6_init 4 = .ok (.aload_n 0, 1) := by decide +kernel
theorem dX6_init_5 : decode cX6_init 5 = .ok (.bipush 80, 2) := by decide +kernel
theorem dX6_init_7 : decode cX6_init 7 = .ok (.newarray .int, 2) := by decide +kernel
theorem dX6_init_9 : decode cX6_init 9 = .ok (.putfield 9, 3) := by decide +kernel
theorem dX6_init_12 : decode cX6_init 12 = .ok (.aload_n 0, 1) := by decide +kernel
theorem dX6_init_13 : decode cX6_init 13 = .ok (.iconst 0, 1) := by decide +kernel
theorem dX6_init_14 : decode cX6_init 14 = .ok (.putfield 15, 3) := by decide +kernel
theorem dX6_init_17 : decode cX6_init 17 = .ok (.aload_n 0, 1) := by decide +kernel
theorem dX6_init_18 : decode cX6_init 18 = .ok (.iconst 0, 1) := by decide +kernel
theorem dX6_init_19 : decode cX6_init 19 = .ok (.putfield 19, 3) := by decide +kernel
theorem dX6_init_22 : decode cX6_init 22 = .ok (.aload_n 0, 1) := by decide +kernel
theorem dX6_init_23 : decode cX6_init 23 = .ok (.iconst (-1), 1) := by decide +kernel
theorem dX6_init_24 : decode cX6_init 24 = .ok (.putfield 22, 3) := by decide +kernel
theorem dX6_init_27 : decode cX6_init 27 = .ok (.return_, 1) := by decide +kernel
theorem dX6_add_0 : decode cX6_add 0 = .ok (.aload_n 0, 1) := by decide +kernel
theorem dX6_add_1 : decode cX6_add 1 = .ok (.getfield 15, 3) := by decide +kernel
theorem dX6_add_4 : decode cX6_add 4 = .ok (.bipush 80, 2) := by decide +kernel
theorem dX6_add_6 : decode cX6_add 6 = .ok (.if_icmp .ge 27, 3) := by decide +kernel
theorem dX6_add_9 : decode cX6_add 9 = .ok (.aload_n 0, 1) := by decide +kernel
theorem dX6_add_10 : decode cX6_add 10 = .ok (.getfield 9, 3) := by decide +kernel
theorem dX6_add_13 : decode cX6_add 13 = .ok (.aload_n 0, 1) := by decide +kernel
theorem dX6_add_14 : decode cX6_add 14 = .ok (.getfield 15, 3) := by decide +kernel
theorem dX6_add_17 : decode cX6_add 17 = .ok (.iload_n 1, 1) := by decide +kernel
theorem dX6_add_18 : decode cX6_add 18 = .ok (.sipush 255, 3) := by decide +kernel
theorem dX6_add_21 : decode cX6_add 21 = .ok (.iand, 1) := by decide +kernel
theorem dX6_add_22 : decode cX6_add 22 = .ok (.iastore, 1) := by decide +kernel
theorem dX6_add_23 : decode cX6_add 23 = .ok (.aload_n 0, 1) := by decide +kernel
theorem dX6_add_24 : decode cX6_add 24 = .ok (.dup, 1) := by decide +kernel
theorem dX6_add_25 : decode cX6_add 25 = .ok (.getfield 15, 3) := by decide +kernel
theorem dX6_add_28 : decode cX6_add 28 = .ok (.iconst 1, 1) := by decide +kernel
theorem dX6_add_29 : decode cX6_add 29 = .ok (.iadd, 1) := by decide +kernel
theorem dX6_add_30 : decode cX6_add 30 = .ok (.putfield 15, 3) := by decide +kernel
theorem dX6_add_33 : decode cX6_add 33 = .ok (.return_, 1) := by decide +kernel
theorem dX6_rewind_0 : decode cX6_rewind 0 = .ok (.aload_n 0, 1) := by decide +kernel
theorem dX6_rewind_1 : decode cX6_rewind 1 = .ok (.iconst 0, 1) := by decide +kernel
theorem dX6_rewind_2 : decode cX6_rewind 2 = .ok (.putfield 19, 3) := by decide +kernel
theorem dX6_rewind_5 : decode cX6_rewind 5 = .ok (.aload_n 0, 1) := by decide +kernel
theorem dX6_rewind_6 : decode cX6_rewind 6 = .ok (.iconst (-1), 1) := by decide +kernel
theorem dX6_rewind_7 : decode cX6_rewind 7 = .ok (.putfield 22, 3) := by decide +kernel
theorem dX6_rewind_10 : decode cX6_rewind 10 = .ok (.return_, 1) := by decide +kernel
theorem dX6_bits_0 : decode cX6_bits 0 = .ok (.bipush 8, 2) := by decide +kernel
theorem dX6_bits_2 : decode cX6_bits 2 = .ok (.aload_n 0, 1) := by decide +kernel
theorem dX6_bits_3 : decode cX6_bits 3 = .ok (.getfield 15, 3) := by decide +kernel
theorem dX6_bits_6 : decode cX6_bits 6 = .ok (.imul, 1) := by decide +kernel
theorem dX6_bits_7 : decode cX6_bits 7 = .ok (.ireturn, 1) := by decide +kernel
theorem dX6_bitAt_0 : decode cX6_bitAt 0 = .ok (.iload_n 1, 1) := by decide +kernel
theorem dX6_bitAt_1 : decode cX6_bitAt 1 = .ok (.iconst 3, 1) := by decide +kernel
theorem dX6_bitAt_2 : decode cX6_bitAt 2 = .ok (.ishr, 1) := by decide +kernel
theorem dX6_bitAt_3 : decode cX6_bitAt 3 = .ok (.istore_n 2, 1) := by decide +kernel
theorem dX6_bitAt_4 : decode cX6_bitAt 4 = .ok (.iload_n 2, 1) := by decide +kernel
theorem dX6_bitAt_5 : decode cX6_bitAt 5 = .ok (.ifCond .lt 11, 3) := by decide +kernel
theorem dX6_bitAt_8 : decode cX6_bitAt 8 = .ok (.iload_n 2, 1) := by decide +kernel
theorem dX6_bitAt_9 : decode cX6_bitAt 9 = .ok (.aload_n 0, 1) := by decide +kernel
theorem dX6_bitAt_10 : decode cX6_bitAt 10 = .ok (.getfield 15, 3) := by decide +kernel
theorem dX6_bitAt_13 : decode cX6_bitAt 13 = .ok (.if_icmp .lt 5, 3) := by decide +kernel
theorem dX6_bitAt_16 : decode cX6_bitAt 16 = .ok (.iconst 0, 1) := by decide +kernel
theorem dX6_bitAt_17 : decode cX6_bitAt 17 = .ok (.ireturn, 1) := by decide +kernel
theorem dX6_bitAt_18 : decode cX6_bitAt 18 = .ok (.aload_n 0, 1) := by decide +kernel
theorem dX6_bitAt_19 : decode cX6_bitAt 19 = .ok (.getfield 9, 3) := by decide +kernel
theorem dX6_bitAt_22 : decode cX6_bitAt 22 = .ok (.iload_n 2, 1) := by decide +kernel
theorem dX6_bitAt_23 : decode cX6_bitAt 23 = .ok (.iaload, 1) := by decide +kernel
theorem dX6_bitAt_24 : decode cX6_bitAt 24 = .ok (.bipush 7, 2) := by decide +kernel
theorem dX6_bitAt_26 : decode cX6_bitAt 26 = .ok (.iload_n 1, 1) := by decide +kernel
theorem dX6_bitAt_27 : decode cX6_bitAt 27 = .ok (.bipush 7, 2) := by decide +kernel
theorem dX6_bitAt_29 : decode cX6_bitAt 29 = .ok (.iand, 1) := by decide +kernel
theorem dX6_bitAt_30 : decode cX6_bitAt 30 = .ok (.isub, 1) := by decide +kernel
theorem dX6_bitAt_31 : decode cX6_bitAt 31 = .ok (.ishr, 1) := by decide +kernel
theorem dX6_bitAt_32 : decode cX6_bitAt 32 = .ok (.iconst 1, 1) := by decide +kernel
theorem dX6_bitAt_33 : decode cX6_bitAt 33 = .ok (.iand, 1) := by decide +kernel
theorem dX6_bitAt_34 : decode cX6_bitAt 34 = .ok (.ireturn, 1) := by decide +kernel
theorem dX6_refuse_0 : decode cX6_refuse 0 = .ok (.aload_n 0, 1) := by decide +kernel
theorem dX6_refuse_1 : decode cX6_refuse 1 = .ok (.getfield 22, 3) := by decide +kernel
theorem dX6_refuse_4 : decode cX6_refuse 4 = .ok (.iconst (-1), 1) := by decide +kernel
theorem dX6_refuse_5 : decode cX6_refuse 5 = .ok (.if_icmp .ne 8, 3) := by decide +kernel
theorem dX6_refuse_8 : decode cX6_refuse 8 = .ok (.aload_n 0, 1) := by decide +kernel
theorem dX6_refuse_9 : decode cX6_refuse 9 = .ok (.iload_n 1, 1) := by decide +kernel
theorem dX6_refuse_10 : decode cX6_refuse 10 = .ok (.putfield 22, 3) := by decide +kernel
theorem dX6_refuse_13 : decode cX6_refuse 13 = .ok (.return_, 1) := by decide +kernel
theorem dX6_refuseLatest_0 : decode cX6_refuseLatest 0 = .ok (.aload_n 0, 1) := by decide +kernel
theorem dX6_refuseLatest_1 : decode cX6_refuseLatest 1 = .ok (.aload_n 0, 1) := by decide +kernel
theorem dX6_refuseLatest_2 : decode cX6_refuseLatest 2 = .ok (.getfield 19, 3) := by decide +kernel
theorem dX6_refuseLatest_5 : decode cX6_refuseLatest 5 = .ok (.iconst 1, 1) := by decide +kernel
theorem dX6_refuseLatest_6 : decode cX6_refuseLatest 6 = .ok (.isub, 1) := by decide +kernel
theorem dX6_refuseLatest_7 : decode cX6_refuseLatest 7 = .ok (.invokevirtual 25, 3) := by decide +kernel
theorem dX6_refuseLatest_10 : decode cX6_refuseLatest 10 = .ok (.return_, 1) := by decide +kernel
theorem dX6_take_0 : decode cX6_take 0 = .ok (.iconst 0, 1) := by decide +kernel
theorem dX6_take_1 : decode cX6_take 1 = .ok (.istore_n 2, 1) := by decide +kernel
theorem dX6_take_2 : decode cX6_take 2 = .ok (.iconst 0, 1) := by decide +kernel
theorem dX6_take_3 : decode cX6_take 3 = .ok (.istore_n 3, 1) := by decide +kernel
theorem dX6_take_4 : decode cX6_take 4 = .ok (.iload_n 3, 1) := by decide +kernel
theorem dX6_take_5 : decode cX6_take 5 = .ok (.iload_n 1, 1) := by decide +kernel
theorem dX6_take_6 : decode cX6_take 6 = .ok (.if_icmp .ge 62, 3) := by decide +kernel
theorem dX6_take_9 : decode cX6_take 9 = .ok (.aload_n 0, 1) := by decide +kernel
theorem dX6_take_10 : decode cX6_take 10 = .ok (.getfield 22, 3) := by decide +kernel
theorem dX6_take_13 : decode cX6_take 13 = .ok (.iconst (-1), 1) := by decide +kernel
theorem dX6_take_14 : decode cX6_take 14 = .ok (.if_icmp .ne 54, 3) := by decide +kernel
theorem dX6_take_17 : decode cX6_take 17 = .ok (.aload_n 0, 1) := by decide +kernel
theorem dX6_take_18 : decode cX6_take 18 = .ok (.getfield 19, 3) := by decide +kernel
theorem dX6_take_21 : decode cX6_take 21 = .ok (.aload_n 0, 1) := by decide +kernel
theorem dX6_take_22 : decode cX6_take 22 = .ok (.invokevirtual 29, 3) := by decide +kernel
theorem dX6_take_25 : decode cX6_take 25 = .ok (.if_icmp .lt 14, 3) := by decide +kernel
theorem dX6_take_28 : decode cX6_take 28 = .ok (.aload_n 0, 1) := by decide +kernel
theorem dX6_take_29 : decode cX6_take 29 = .ok (.aload_n 0, 1) := by decide +kernel
theorem dX6_take_30 : decode cX6_take 30 = .ok (.invokevirtual 29, 3) := by decide +kernel
theorem dX6_take_33 : decode cX6_take 33 = .ok (.invokevirtual 25, 3) := by decide +kernel
theorem dX6_take_36 : decode cX6_take 36 = .ok (.goto 26, 3) := by decide +kernel
theorem dX6_take_39 : decode cX6_take 39 = .ok (.iconst 2, 1) := by decide +kernel
theorem dX6_take_40 : decode cX6_take 40 = .ok (.iload_n 2, 1) := by decide +kernel
theorem dX6_take_41 : decode cX6_take 41 = .ok (.imul, 1) := by decide +kernel
theorem dX6_take_42 : decode cX6_take 42 = .ok (.aload_n 0, 1) := by decide +kernel
theorem dX6_take_43 : decode cX6_take 43 = .ok (.aload_n 0, 1) := by decide +kernel
theorem dX6_take_44 : decode cX6_take 44 = .ok (.getfield 19, 3) := by decide +kernel
theorem dX6_take_47 : decode cX6_take 47 = .ok (.invokevirtual 33, 3) := by decide +kernel
theorem dX6_take_50 : decode cX6_take 50 = .ok (.iadd, 1) := by decide +kernel
theorem dX6_take_51 : decode cX6_take 51 = .ok (.istore_n 2, 1) := by decide +kernel
theorem dX6_take_52 : decode cX6_take 52 = .ok (.aload_n 0, 1) := by decide +kernel
theorem dX6_take_53 : decode cX6_take 53 = .ok (.dup, 1) := by decide +kernel
theorem dX6_take_54 : decode cX6_take 54 = .ok (.getfield 19, 3) := by decide +kernel
theorem dX6_take_57 : decode cX6_take 57 = .ok (.iconst 1, 1) := by decide +kernel
theorem dX6_take_58 : decode cX6_take 58 = .ok (.iadd, 1) := by decide +kernel
theorem dX6_take_59 : decode cX6_take 59 = .ok (.putfield 19, 3) := by decide +kernel
theorem dX6_take_62 : decode cX6_take 62 = .ok (.iinc 3 1, 3) := by decide +kernel
theorem dX6_take_65 : decode cX6_take 65 = .ok (.goto (-61), 3) := by decide +kernel
theorem dX6_take_68 : decode cX6_take 68 = .ok (.iload_n 2, 1) := by decide +kernel
theorem dX6_take_69 : decode cX6_take 69 = .ok (.ireturn, 1) := by decide +kernel
theorem dX6_takeNatural_0 : decode cX6_takeNatural 0 = .ok (.lconst 0, 1) := by decide +kernel
theorem dX6_takeNatural_1 : decode cX6_takeNatural 1 = .ok (.lstore_n 1, 1) := by decide +kernel
theorem dX6_takeNatural_2 : decode cX6_takeNatural 2 = .ok (.iconst 1, 1) := by decide +kernel
theorem dX6_takeNatural_3 : decode cX6_takeNatural 3 = .ok (.istore_n 3, 1) := by decide +kernel
theorem dX6_takeNatural_4 : decode cX6_takeNatural 4 = .ok (.iconst 0, 1) := by decide +kernel
theorem dX6_takeNatural_5 : decode cX6_takeNatural 5 = .ok (.istore 4, 2) := by decide +kernel
theorem dX6_takeNatural_7 : decode cX6_takeNatural 7 = .ok (.iload 4, 2) := by decide +kernel
theorem dX6_takeNatural_9 : decode cX6_takeNatural 9 = .ok (.iconst 5, 1) := by decide +kernel
theorem dX6_takeNatural_10 : decode cX6_takeNatural 10 = .ok (.if_icmp .ge 56, 3) := by decide +kernel
theorem dX6_takeNatural_13 : decode cX6_takeNatural 13 = .ok (.iload_n 3, 1) := by decide +kernel
theorem dX6_takeNatural_14 : decode cX6_takeNatural 14 = .ok (.iconst 1, 1) := by decide +kernel
theorem dX6_takeNatural_15 : decode cX6_takeNatural 15 = .ok (.if_icmp .ne 51, 3) := by decide +kernel
theorem dX6_takeNatural_18 : decode cX6_takeNatural 18 = .ok (.aload_n 0, 1) := by decide +kernel
theorem dX6_takeNatural_19 : decode cX6_takeNatural 19 = .ok (.getfield 22, 3) := by decide +kernel
theorem dX6_takeNatural_22 : decode cX6_takeNatural 22 = .ok (.iconst (-1), 1) := by decide +kernel
theorem dX6_takeNatural_23 : decode cX6_takeNatural 23 = .ok (.if_icmp .ne 43, 3) := by decide +kernel
theorem dX6_takeNatural_26 : decode cX6_takeNatural 26 = .ok (.aload_n 0, 1) := by decide +kernel
theorem dX6_takeNatural_27 : decode cX6_takeNatural 27 = .ok (.iconst 1, 1) := by decide +kernel
theorem dX6_takeNatural_28 : decode cX6_takeNatural 28 = .ok (.invokevirtual 37, 3) := by decide +kernel
theorem dX6_takeNatural_31 : decode cX6_takeNatural 31 = .ok (.istore_n 3, 1) := by decide +kernel
theorem dX6_takeNatural_32 : decode cX6_takeNatural 32 = .ok (.lload_n 1, 1) := by decide +kernel
theorem dX6_takeNatural_33 : decode cX6_takeNatural 33 = .ok (.aload_n 0, 1) := by decide +kernel
theorem dX6_takeNatural_34 : decode cX6_takeNatural 34 = .ok (.bipush 7, 2) := by decide +kernel
theorem dX6_takeNatural_36 : decode cX6_takeNatural 36 = .ok (.invokevirtual 37, 3) := by decide +kernel
theorem dX6_takeNatural_39 : decode cX6_takeNatural 39 = .ok (.i2l, 1) := by decide +kernel
theorem dX6_takeNatural_40 : decode cX6_takeNatural 40 = .ok (.bipush 7, 2) := by decide +kernel
theorem dX6_takeNatural_42 : decode cX6_takeNatural 42 = .ok (.iload 4, 2) := by decide +kernel
theorem dX6_takeNatural_44 : decode cX6_takeNatural 44 = .ok (.imul, 1) := by decide +kernel
theorem dX6_takeNatural_45 : decode cX6_takeNatural 45 = .ok (.lshl, 1) := by decide +kernel
theorem dX6_takeNatural_46 : decode cX6_takeNatural 46 = .ok (.ladd, 1) := by decide +kernel
theorem dX6_takeNatural_47 : decode cX6_takeNatural 47 = .ok (.lstore_n 1, 1) := by decide +kernel
theorem dX6_takeNatural_48 : decode cX6_takeNatural 48 = .ok (.lload_n 1, 1) := by decide +kernel
theorem dX6_takeNatural_49 : decode cX6_takeNatural 49 = .ok (.ldc2_w 40, 3) := by decide +kernel
theorem dX6_takeNatural_52 : decode cX6_takeNatural 52 = .ok (.lcmp, 1) := by decide +kernel
theorem dX6_takeNatural_53 : decode cX6_takeNatural 53 = .ok (.ifCond .le 7, 3) := by decide +kernel
theorem dX6_takeNatural_56 : decode cX6_takeNatural 56 = .ok (.aload_n 0, 1) := by decide +kernel
theorem dX6_takeNatural_57 : decode cX6_takeNatural 57 = .ok (.invokevirtual 42, 3) := by decide +kernel
theorem dX6_takeNatural_60 : decode cX6_takeNatural 60 = .ok (.iinc 4 1, 3) := by decide +kernel
theorem dX6_takeNatural_63 : decode cX6_takeNatural 63 = .ok (.goto (-56), 3) := by decide +kernel
theorem dX6_takeNatural_66 : decode cX6_takeNatural 66 = .ok (.iload_n 3, 1) := by decide +kernel
theorem dX6_takeNatural_67 : decode cX6_takeNatural 67 = .ok (.iconst 1, 1) := by decide +kernel
theorem dX6_takeNatural_68 : decode cX6_takeNatural 68 = .ok (.if_icmp .ne 11, 3) := by decide +kernel
theorem dX6_takeNatural_71 : decode cX6_takeNatural 71 = .ok (.aload_n 0, 1) := by decide +kernel
theorem dX6_takeNatural_72 : decode cX6_takeNatural 72 = .ok (.aload_n 0, 1) := by decide +kernel
theorem dX6_takeNatural_73 : decode cX6_takeNatural 73 = .ok (.getfield 19, 3) := by decide +kernel
theorem dX6_takeNatural_76 : decode cX6_takeNatural 76 = .ok (.invokevirtual 25, 3) := by decide +kernel
theorem dX6_takeNatural_79 : decode cX6_takeNatural 79 = .ok (.aload_n 0, 1) := by decide +kernel
theorem dX6_takeNatural_80 : decode cX6_takeNatural 80 = .ok (.getfield 22, 3) := by decide +kernel
theorem dX6_takeNatural_83 : decode cX6_takeNatural 83 = .ok (.iconst (-1), 1) := by decide +kernel
theorem dX6_takeNatural_84 : decode cX6_takeNatural 84 = .ok (.if_icmp .ne 8, 3) := by decide +kernel
theorem dX6_takeNatural_87 : decode cX6_takeNatural 87 = .ok (.lload_n 1, 1) := by decide +kernel
theorem dX6_takeNatural_88 : decode cX6_takeNatural 88 = .ok (.l2i, 1) := by decide +kernel
theorem dX6_takeNatural_89 : decode cX6_takeNatural 89 = .ok (.goto 4, 3) := by decide +kernel
theorem dX6_takeNatural_92 : decode cX6_takeNatural 92 = .ok (.iconst 0, 1) := by decide +kernel
theorem dX6_takeNatural_93 : decode cX6_takeNatural 93 = .ok (.ireturn, 1) := by decide +kernel
theorem dX6_takeBytes_0 : decode cX6_takeBytes 0 = .ok (.aload_n 0, 1) := by decide +kernel
theorem dX6_takeBytes_1 : decode cX6_takeBytes 1 = .ok (.iconst 3, 1) := by decide +kernel
theorem dX6_takeBytes_2 : decode cX6_takeBytes 2 = .ok (.invokevirtual 37, 3) := by decide +kernel
theorem dX6_takeBytes_5 : decode cX6_takeBytes 5 = .ok (.istore_n 1, 1) := by decide +kernel
theorem dX6_takeBytes_6 : decode cX6_takeBytes 6 = .ok (.lconst 0, 1) := by decide +kernel
theorem dX6_takeBytes_7 : decode cX6_takeBytes 7 = .ok (.lstore_n 2, 1) := by decide +kernel
theorem dX6_takeBytes_8 : decode cX6_takeBytes 8 = .ok (.iconst 0, 1) := by decide +kernel
theorem dX6_takeBytes_9 : decode cX6_takeBytes 9 = .ok (.istore 4, 2) := by decide +kernel
theorem dX6_takeBytes_11 : decode cX6_takeBytes 11 = .ok (.iload 4, 2) := by decide +kernel
theorem dX6_takeBytes_13 : decode cX6_takeBytes 13 = .ok (.iload_n 1, 1) := by decide +kernel
theorem dX6_takeBytes_14 : decode cX6_takeBytes 14 = .ok (.if_icmp .ge 22, 3) := by decide +kernel
theorem dX6_takeBytes_17 : decode cX6_takeBytes 17 = .ok (.lload_n 2, 1) := by decide +kernel
theorem dX6_takeBytes_18 : decode cX6_takeBytes 18 = .ok (.bipush 8, 2) := by decide +kernel
theorem dX6_takeBytes_20 : decode cX6_takeBytes 20 = .ok (.lshl, 1) := by decide +kernel
theorem dX6_takeBytes_21 : decode cX6_takeBytes 21 = .ok (.aload_n 0, 1) := by decide +kernel
theorem dX6_takeBytes_22 : decode cX6_takeBytes 22 = .ok (.bipush 8, 2) := by decide +kernel
theorem dX6_takeBytes_24 : decode cX6_takeBytes 24 = .ok (.invokevirtual 37, 3) := by decide +kernel
theorem dX6_takeBytes_27 : decode cX6_takeBytes 27 = .ok (.i2l, 1) := by decide +kernel
theorem dX6_takeBytes_28 : decode cX6_takeBytes 28 = .ok (.lor, 1) := by decide +kernel
theorem dX6_takeBytes_29 : decode cX6_takeBytes 29 = .ok (.lstore_n 2, 1) := by decide +kernel
theorem dX6_takeBytes_30 : decode cX6_takeBytes 30 = .ok (.iinc 4 1, 3) := by decide +kernel
theorem dX6_takeBytes_33 : decode cX6_takeBytes 33 = .ok (.goto (-22), 3) := by decide +kernel
theorem dX6_takeBytes_36 : decode cX6_takeBytes 36 = .ok (.iload_n 1, 1) := by decide +kernel
theorem dX6_takeBytes_37 : decode cX6_takeBytes 37 = .ok (.lload_n 2, 1) := by decide +kernel
theorem dX6_takeBytes_38 : decode cX6_takeBytes 38 = .ok (.invokestatic 45, 3) := by decide +kernel
theorem dX6_takeBytes_41 : decode cX6_takeBytes 41 = .ok (.lreturn, 1) := by decide +kernel
theorem dX6_takeEnding_0 : decode cX6_takeEnding 0 = .ok (.aload_n 0, 1) := by decide +kernel
theorem dX6_takeEnding_1 : decode cX6_takeEnding 1 = .ok (.getfield 19, 3) := by decide +kernel
theorem dX6_takeEnding_4 : decode cX6_takeEnding 4 = .ok (.aload_n 0, 1) := by decide +kernel
theorem dX6_takeEnding_5 : decode cX6_takeEnding 5 = .ok (.invokevirtual 29, 3) := by decide +kernel
theorem dX6_takeEnding_8 : decode cX6_takeEnding 8 = .ok (.if_icmp .lt 11, 3) := by decide +kernel
theorem dX6_takeEnding_11 : decode cX6_takeEnding 11 = .ok (.aload_n 0, 1) := by decide +kernel
theorem dX6_takeEnding_12 : decode cX6_takeEnding 12 = .ok (.aload_n 0, 1) := by decide +kernel
theorem dX6_takeEnding_13 : decode cX6_takeEnding 13 = .ok (.invokevirtual 29, 3) := by decide +kernel
theorem dX6_takeEnding_16 : decode cX6_takeEnding 16 = .ok (.invokevirtual 25, 3) := by decide +kernel
theorem dX6_takeEnding_19 : decode cX6_takeEnding 19 = .ok (.aload_n 0, 1) := by decide +kernel
theorem dX6_takeEnding_20 : decode cX6_takeEnding 20 = .ok (.getfield 19, 3) := by decide +kernel
theorem dX6_takeEnding_23 : decode cX6_takeEnding 23 = .ok (.bipush 7, 2) := by decide +kernel
theorem dX6_takeEnding_25 : decode cX6_takeEnding 25 = .ok (.ior, 1) := by decide +kernel
theorem dX6_takeEnding_26 : decode cX6_takeEnding 26 = .ok (.istore_n 1, 1) := by decide +kernel
theorem dX6_takeEnding_27 : decode cX6_takeEnding 27 = .ok (.aload_n 0, 1) := by decide +kernel
theorem dX6_takeEnding_28 : decode cX6_takeEnding 28 = .ok (.getfield 19, 3) := by decide +kernel
theorem dX6_takeEnding_31 : decode cX6_takeEnding 31 = .ok (.istore_n 2, 1) := by decide +kernel
theorem dX6_takeEnding_32 : decode cX6_takeEnding 32 = .ok (.iload_n 2, 1) := by decide +kernel
theorem dX6_takeEnding_33 : decode cX6_takeEnding 33 = .ok (.iload_n 1, 1) := by decide +kernel
theorem dX6_takeEnding_34 : decode cX6_takeEnding 34 = .ok (.if_icmp .ge 23, 3) := by decide +kernel
theorem dX6_takeEnding_37 : decode cX6_takeEnding 37 = .ok (.aload_n 0, 1) := by decide +kernel
theorem dX6_takeEnding_38 : decode cX6_takeEnding 38 = .ok (.iload_n 2, 1) := by decide +kernel
theorem dX6_takeEnding_39 : decode cX6_takeEnding 39 = .ok (.invokevirtual 33, 3) := by decide +kernel
theorem dX6_takeEnding_42 : decode cX6_takeEnding 42 = .ok (.iconst 1, 1) := by decide +kernel
theorem dX6_takeEnding_43 : decode cX6_takeEnding 43 = .ok (.if_icmp .ne 8, 3) := by decide +kernel
theorem dX6_takeEnding_46 : decode cX6_takeEnding 46 = .ok (.aload_n 0, 1) := by decide +kernel
theorem dX6_takeEnding_47 : decode cX6_takeEnding 47 = .ok (.iload_n 2, 1) := by decide +kernel
theorem dX6_takeEnding_48 : decode cX6_takeEnding 48 = .ok (.invokevirtual 25, 3) := by decide +kernel
theorem dX6_takeEnding_51 : decode cX6_takeEnding 51 = .ok (.iinc 2 1, 3) := by decide +kernel
theorem dX6_takeEnding_54 : decode cX6_takeEnding 54 = .ok (.goto (-22), 3) := by decide +kernel
theorem dX6_takeEnding_57 : decode cX6_takeEnding 57 = .ok (.aload_n 0, 1) := by decide +kernel
theorem dX6_takeEnding_58 : decode cX6_takeEnding 58 = .ok (.iload_n 1, 1) := by decide +kernel
theorem dX6_takeEnding_59 : decode cX6_takeEnding 59 = .ok (.invokevirtual 33, 3) := by decide +kernel
theorem dX6_takeEnding_62 : decode cX6_takeEnding 62 = .ok (.ifCond .ne 8, 3) := by decide +kernel
theorem dX6_takeEnding_65 : decode cX6_takeEnding 65 = .ok (.aload_n 0, 1) := by decide +kernel
theorem dX6_takeEnding_66 : decode cX6_takeEnding 66 = .ok (.iload_n 1, 1) := by decide +kernel
theorem dX6_takeEnding_67 : decode cX6_takeEnding 67 = .ok (.invokevirtual 25, 3) := by decide +kernel
theorem dX6_takeEnding_70 : decode cX6_takeEnding 70 = .ok (.iload_n 1, 1) := by decide +kernel
theorem dX6_takeEnding_71 : decode cX6_takeEnding 71 = .ok (.iconst 1, 1) := by decide +kernel
theorem dX6_takeEnding_72 : decode cX6_takeEnding 72 = .ok (.iadd, 1) := by decide +kernel
theorem dX6_takeEnding_73 : decode cX6_takeEnding 73 = .ok (.aload_n 0, 1) := by decide +kernel
theorem dX6_takeEnding_74 : decode cX6_takeEnding 74 = .ok (.invokevirtual 29, 3) := by decide +kernel
theorem dX6_takeEnding_77 : decode cX6_takeEnding 77 = .ok (.if_icmp .ge 10, 3) := by decide +kernel
theorem dX6_takeEnding_80 : decode cX6_takeEnding 80 = .ok (.aload_n 0, 1) := by decide +kernel
theorem dX6_takeEnding_81 : decode cX6_takeEnding 81 = .ok (.iload_n 1, 1) := by decide +kernel
theorem dX6_takeEnding_82 : decode cX6_takeEnding 82 = .ok (.iconst 1, 1) := by decide +kernel
theorem dX6_takeEnding_83 : decode cX6_takeEnding 83 = .ok (.iadd, 1) := by decide +kernel
theorem dX6_takeEnding_84 : decode cX6_takeEnding 84 = .ok (.invokevirtual 25, 3) := by decide +kernel
theorem dX6_takeEnding_87 : decode cX6_takeEnding 87 = .ok (.return_, 1) := by decide +kernel
theorem dX7_init_0 : decode cX7_init 0 = .ok (.aload_n 0, 1) := by decide +kernel
theorem dX7_init_1 : decode cX7_init 1 = .ok (.invokespecial 3, 3) := by decide +kernel
theorem dX7_init_4 : decode cX7_init 4 = .ok (.aload_n 0, 1) := by decide +kernel
theorem dX7_init_5 : decode cX7_init 5 = .ok (.new 9, 3) := by decide +kernel
theorem dX7_init_8 : decode cX7_init 8 = .ok (.dup, 1) := by decide +kernel
theorem dX7_init_9 : decode cX7_init 9 = .ok (.invokespecial 11, 3) := by decide +kernel
theorem dX7_init_12 : decode cX7_init 12 = .ok (.putfield 12, 3) := by decide +kernel
theorem dX7_init_15 : decode cX7_init 15 = .ok (.aload_n 0, 1) := by decide +kernel
theorem dX7_init_16 : decode cX7_init 16 = .ok (.new 18, 3) := by decide +kernel
theorem dX7_init_19 : decode cX7_init 19 = .ok (.dup, 1) := by decide +kernel
theorem dX7_init_20 : decode cX7_init 20 = .ok (.invokespecial 20, 3) := by decide +kernel
theorem dX7_init_23 : decode cX7_init 23 = .ok (.putfield 21, 3) := by decide +kernel
theorem dX7_init_26 : decode cX7_init 26 = .ok (.aload_n 0, 1) := by decide +kernel
theorem dX7_init_27 : decode cX7_init 27 = .ok (.new 25, 3) := by decide +kernel
theorem dX7_init_30 : decode cX7_init 30 = .ok (.dup, 1) := by decide +kernel
theorem dX7_init_31 : decode cX7_init 31 = .ok (.invokespecial 27, 3) := by decide +kernel
theorem dX7_init_34 : decode cX7_init 34 = .ok (.putfield 28, 3) := by decide +kernel
theorem dX7_init_37 : decode cX7_init 37 = .ok (.aload_n 0, 1) := by decide +kernel
theorem dX7_init_38 : decode cX7_init 38 = .ok (.new 32, 3) := by decide +kernel
theorem dX7_init_41 : decode cX7_init 41 = .ok (.dup, 1) := by decide +kernel
theorem dX7_init_42 : decode cX7_init 42 = .ok (.invokespecial 34, 3) := by decide +kernel
theorem dX7_init_45 : decode cX7_init 45 = .ok (.putfield 35, 3) := by decide +kernel
theorem dX7_init_48 : decode cX7_init 48 = .ok (.aload_n 0, 1) := by decide +kernel
theorem dX7_init_49 : decode cX7_init 49 = .ok (.iconst 0, 1) := by decide +kernel
theorem dX7_init_50 : decode cX7_init 50 = .ok (.putfield 39, 3) := by decide +kernel
theorem dX7_init_53 : decode cX7_init 53 = .ok (.aload_n 0, 1) := by decide +kernel
theorem dX7_init_54 : decode cX7_init 54 = .ok (.iconst 0, 1) := by decide +kernel
theorem dX7_init_55 : decode cX7_init 55 = .ok (.putfield 43, 3) := by decide +kernel
theorem dX7_init_58 : decode cX7_init 58 = .ok (.aload_n 0, 1) := by decide +kernel
theorem dX7_init_59 : decode cX7_init 59 = .ok (.iconst 0, 1) := by decide +kernel
theorem dX7_init_60 : decode cX7_init 60 = .ok (.putfield 46, 3) := by decide +kernel
theorem dX7_init_63 : decode cX7_init 63 = .ok (.aload_n 0, 1) := by decide +kernel
theorem dX7_init_64 : decode cX7_init 64 = .ok (.iconst 0, 1) := by decide +kernel
theorem dX7_init_65 : decode cX7_init 65 = .ok (.putfield 49, 3) := by decide +kernel
theorem dX7_init_68 : decode cX7_init 68 = .ok (.aload_n 0, 1) := by decide +kernel
theorem dX7_init_69 : decode cX7_init 69 = .ok (.iconst 0, 1) := by decide +kernel
theorem dX7_init_70 : decode cX7_init 70 = .ok (.putfield 52, 3) := by decide +kernel
theorem dX7_init_73 : decode cX7_init 73 = .ok (.aload_n 0, 1) := by decide +kernel
theorem dX7_init_74 : decode cX7_init 74 = .ok (.iconst (-1), 1) := by decide +kernel
theorem dX7_init_75 : decode cX7_init 75 = .ok (.putfield 55, 3) := by decide +kernel
theorem dX7_init_78 : decode cX7_init 78 = .ok (.aload_n 0, 1) := by decide +kernel
theorem dX7_init_79 : decode cX7_init 79 = .ok (.iconst (-1), 1) := by decide +kernel
theorem dX7_init_80 : decode cX7_init 80 = .ok (.putfield 58, 3) := by decide +kernel
theorem dX7_init_83 : decode cX7_init 83 = .ok (.return_, 1) := by decide +kernel
theorem dX7_forget_0 : decode cX7_forget 0 = .ok (.aload_n 0, 1) := by decide +kernel
theorem dX7_forget_1 : decode cX7_forget 1 = .ok (.iconst 0, 1) := by decide +kernel
theorem dX7_forget_2 : decode cX7_forget 2 = .ok (.putfield 43, 3) := by decide +kernel
theorem dX7_forget_5 : decode cX7_forget 5 = .ok (.aload_n 0, 1) := by decide +kernel
theorem dX7_forget_6 : decode cX7_forget 6 = .ok (.iconst 0, 1) := by decide +kernel
theorem dX7_forget_7 : decode cX7_forget 7 = .ok (.putfield 46, 3) := by decide +kernel
theorem dX7_forget_10 : decode cX7_forget 10 = .ok (.aload_n 0, 1) := by decide +kernel
theorem dX7_forget_11 : decode cX7_forget 11 = .ok (.iconst 0, 1) := by decide +kernel
theorem dX7_forget_12 : decode cX7_forget 12 = .ok (.putfield 49, 3) := by decide +kernel
theorem dX7_forget_15 : decode cX7_forget 15 = .ok (.aload_n 0, 1) := by decide +kernel
theorem dX7_forget_16 : decode cX7_forget 16 = .ok (.getfield 12, 3) := by decide +kernel
theorem dX7_forget_19 : decode cX7_forget 19 = .ok (.iconst 0, 1) := by decide +kernel
theorem dX7_forget_20 : decode cX7_forget 20 = .ok (.putfield 61, 3) := by decide +kernel
theorem dX7_forget_23 : decode cX7_forget 23 = .ok (.aload_n 0, 1) := by decide +kernel
theorem dX7_forget_24 : decode cX7_forget 24 = .ok (.getfield 21, 3) := by decide +kernel
theorem dX7_forget_27 : decode cX7_forget 27 = .ok (.iconst 0, 1) := by decide +kernel
theorem dX7_forget_28 : decode cX7_forget 28 = .ok (.putfield 64, 3) := by decide +kernel
theorem dX7_forget_31 : decode cX7_forget 31 = .ok (.aload_n 0, 1) := by decide +kernel
theorem dX7_forget_32 : decode cX7_forget 32 = .ok (.getfield 35, 3) := by decide +kernel
theorem dX7_forget_35 : decode cX7_forget 35 = .ok (.iconst 0, 1) := by decide +kernel
theorem dX7_forget_36 : decode cX7_forget 36 = .ok (.putfield 65, 3) := by decide +kernel
theorem dX7_forget_39 : decode cX7_forget 39 = .ok (.return_, 1) := by decide +kernel
theorem dX7_start_0 : decode cX7_start 0 = .ok (.aload_n 0, 1) := by decide +kernel
theorem dX7_start_1 : decode cX7_start 1 = .ok (.invokevirtual 66, 3) := by decide +kernel
theorem dX7_start_4 : decode cX7_start 4 = .ok (.aload_n 0, 1) := by decide +kernel
theorem dX7_start_5 : decode cX7_start 5 = .ok (.iload_n 1, 1) := by decide +kernel
theorem dX7_start_6 : decode cX7_start 6 = .ok (.putfield 39, 3) := by decide +kernel
theorem dX7_start_9 : decode cX7_start 9 = .ok (.aload_n 0, 1) := by decide +kernel
theorem dX7_start_10 : decode cX7_start 10 = .ok (.iconst 0, 1) := by decide +kernel
theorem dX7_start_11 : decode cX7_start 11 = .ok (.iconst (-1), 1) := by decide +kernel
theorem dX7_start_12 : decode cX7_start 12 = .ok (.invokevirtual 69, 3) := by decide +kernel
theorem dX7_start_15 : decode cX7_start 15 = .ok (.return_, 1) := by decide +kernel
theorem dX7_step_0 : decode cX7_step 0 = .ok (.aload_n 0, 1) := by decide +kernel
theorem dX7_step_1 : decode cX7_step 1 = .ok (.dup, 1) := by decide +kernel
theorem dX7_step_2 : decode cX7_step 2 = .ok (.getfield 46, 3) := by decide +kernel
theorem dX7_step_5 : decode cX7_step 5 = .ok (.iconst 1, 1) := by decide +kernel
theorem dX7_step_6 : decode cX7_step 6 = .ok (.iadd, 1) := by decide +kernel
theorem dX7_step_7 : decode cX7_step 7 = .ok (.putfield 46, 3) := by decide +kernel
theorem dX7_step_10 : decode cX7_step 10 = .ok (.aload_n 0, 1) := by decide +kernel
theorem dX7_step_11 : decode cX7_step 11 = .ok (.invokevirtual 73, 3) := by decide +kernel
theorem dX7_step_14 : decode cX7_step 14 = .ok (.istore_n 2, 1) := by decide +kernel
theorem dX7_step_15 : decode cX7_step 15 = .ok (.iconst 1, 1) := by decide +kernel
theorem dX7_step_16 : decode cX7_step 16 = .ok (.istore_n 3, 1) := by decide +kernel
theorem dX7_step_17 : decode cX7_step 17 = .ok (.iload_n 2, 1) := by decide +kernel
theorem dX7_step_18 : decode cX7_step 18 = .ok (.ifCond .eq 39, 3) := by decide +kernel
theorem dX7_step_21 : decode cX7_step 21 = .ok (.aload_n 0, 1) := by decide +kernel
theorem dX7_step_22 : decode cX7_step 22 = .ok (.getfield 28, 3) := by decide +kernel
theorem dX7_step_25 : decode cX7_step 25 = .ok (.aload_n 0, 1) := by decide +kernel
theorem dX7_step_26 : decode cX7_step 26 = .ok (.getfield 12, 3) := by decide +kernel
theorem dX7_step_29 : decode cX7_step 29 = .ok (.aload_n 0, 1) := by decide +kernel
theorem dX7_step_30 : decode cX7_step 30 = .ok (.getfield 21, 3) := by decide +kernel
theorem dX7_step_33 : decode cX7_step 33 = .ok (.invokevirtual 77, 3) := by decide +kernel
theorem dX7_step_36 : decode cX7_step 36 = .ok (.aload_n 0, 1) := by decide +kernel
theorem dX7_step_37 : decode cX7_step 37 = .ok (.getfield 58, 3) := by decide +kernel
theorem dX7_step_40 : decode cX7_step 40 = .ok (.invokevirtual 81, 3) := by decide +kernel
theorem dX7_step_43 : decode cX7_step 43 = .ok (.iload_n 3, 1) := by decide +kernel
theorem dX7_step_44 : decode cX7_step 44 = .ok (.aload_n 0, 1) := by decide +kernel
theorem dX7_step_45 : decode cX7_step 45 = .ok (.getfield 28, 3) := by decide +kernel
theorem dX7_step_48 : decode cX7_step 48 = .ok (.aload_n 0, 1) := by decide +kernel
theorem dX7_step_49 : decode cX7_step 49 = .ok (.getfield 12, 3) := by decide +kernel
theorem dX7_step_52 : decode cX7_step 52 = .ok (.invokevirtual 85, 3) := by decide +kernel
theorem dX7_step_55 : decode cX7_step 55 = .ok (.iadd, 1) := by decide +kernel
theorem dX7_step_56 : decode cX7_step 56 = .ok (.istore_n 3, 1) := by decide +kernel
theorem dX7_step_57 : decode cX7_step 57 = .ok (.aload_n 0, 1) := by decide +kernel
theorem dX7_step_58 : decode cX7_step 58 = .ok (.getfield 49, 3) := by decide +kernel
theorem dX7_step_61 : decode cX7_step 61 = .ok (.iload_n 3, 1) := by decide +kernel
theorem dX7_step_62 : decode cX7_step 62 = .ok (.iadd, 1) := by decide +kernel
theorem dX7_step_63 : decode cX7_step 63 = .ok (.aload_n 0, 1) := by decide +kernel
theorem dX7_step_64 : decode cX7_step 64 = .ok (.getfield 39, 3) := by decide +kernel
theorem dX7_step_67 : decode cX7_step 67 = .ok (.if_icmp .le 9, 3) := by decide +kernel
theorem dX7_step_70 : decode cX7_step 70 = .ok (.aload_n 0, 1) := by decide +kernel
theorem dX7_step_71 : decode cX7_step 71 = .ok (.iconst 5, 1) := by decide +kernel
theorem dX7_step_72 : decode cX7_step 72 = .ok (.invokevirtual 89, 3) := by decide +kernel
theorem dX7_step_75 : decode cX7_step 75 = .ok (.return_, 1) := by decide +kernel
theorem dX7_step_76 : decode cX7_step 76 = .ok (.aload_n 0, 1) := by decide +kernel
theorem dX7_step_77 : decode cX7_step 77 = .ok (.dup, 1) := by decide +kernel
theorem dX7_step_78 : decode cX7_step 78 = .ok (.getfield 49, 3) := by decide +kernel
theorem dX7_step_81 : decode cX7_step 81 = .ok (.iload_n 3, 1) := by decide +kernel
theorem dX7_step_82 : decode cX7_step 82 = .ok (.iadd, 1) := by decide +kernel
theorem dX7_step_83 : decode cX7_step 83 = .ok (.putfield 49, 3) := by decide +kernel
theorem dX7_step_86 : decode cX7_step 86 = .ok (.aload_n 0, 1) := by decide +kernel
theorem dX7_step_87 : decode cX7_step 87 = .ok (.getfield 43, 3) := by decide +kernel
theorem dX7_step_90 : decode cX7_step 90 = .ok (.iconst 1, 1) := by decide +kernel
theorem dX7_step_91 : decode cX7_step 91 = .ok (.if_icmp .ne 11, 3) := by decide +kernel
theorem dX7_step_94 : decode cX7_step 94 = .ok (.aload_n 0, 1) := by decide +kernel
theorem dX7_step_95 : decode cX7_step 95 = .ok (.aload_n 1, 1) := by decide +kernel
theorem dX7_step_96 : decode cX7_step 96 = .ok (.invokevirtual 93, 3) := by decide +kernel
theorem dX7_step_99 : decode cX7_step 99 = .ok (.goto 52, 3) := by decide +kernel
theorem dX7_step_102 : decode cX7_step 102 = .ok (.iload_n 2, 1) := by decide +kernel
theorem dX7_step_103 : decode cX7_step 103 = .ok (.ifCond .eq 10, 3) := by decide +kernel
theorem dX7_step_106 : decode cX7_step 106 = .ok (.aload_n 0, 1) := by decide +kernel
theorem dX7_step_107 : decode cX7_step 107 = .ok (.invokevirtual 97, 3) := by decide +kernel
theorem dX7_step_110 : decode cX7_step 110 = .ok (.goto 41, 3) := by decide +kernel
theorem dX7_step_113 : decode cX7_step 113 = .ok (.aload_n 0, 1) := by decide +kernel
theorem dX7_step_114 : decode cX7_step 114 = .ok (.getfield 21, 3) := by decide +kernel
theorem dX7_step_117 : decode cX7_step 117 = .ok (.getfield 64, 3) := by decide +kernel
theorem dX7_step_120 : decode cX7_step 120 = .ok (.ifCond .le 10, 3) := by decide +kernel
theorem dX7_step_123 : decode cX7_step 123 = .ok (.aload_n 0, 1) := by decide +kernel
theorem dX7_step_124 : decode cX7_step 124 = .ok (.invokevirtual 100, 3) := by decide +kernel
theorem dX7_step_127 : decode cX7_step 127 = .ok (.goto 24, 3) := by decide +kernel
theorem dX7_step_130 : decode cX7_step 130 = .ok (.aload_n 0, 1) := by decide +kernel
theorem dX7_step_131 : decode cX7_step 131 = .ok (.getfield 35, 3) := by decide +kernel
theorem dX7_step_134 : decode cX7_step 134 = .ok (.aload_n 1, 1) := by decide +kernel
theorem dX7_step_135 : decode cX7_step 135 = .ok (.aload_n 0, 1) := by decide +kernel
theorem dX7_step_136 : decode cX7_step 136 = .ok (.getfield 12, 3) := by decide +kernel
theorem dX7_step_139 : decode cX7_step 139 = .ok (.aload_n 0, 1) := by decide +kernel
theorem dX7_step_140 : decode cX7_step 140 = .ok (.getfield 58, 3) := by decide +kernel
theorem dX7_step_143 : decode cX7_step 143 = .ok (.invokevirtual 103, 3) := by decide +kernel
theorem dX7_step_146 : decode cX7_step 146 = .ok (.aload_n 0, 1) := by decide +kernel
theorem dX7_step_147 : decode cX7_step 147 = .ok (.iconst 1, 1) := by decide +kernel
theorem dX7_step_148 : decode cX7_step 148 = .ok (.invokevirtual 89, 3) := by decide +kernel
theorem dX7_step_151 : decode cX7_step 151 = .ok (.return_, 1) := by decide +kernel
theorem dX7_operates_0 : decode cX7_operates 0 = .ok (.aload_n 0, 1) := by decide +kernel
theorem dX7_operates_1 : decode cX7_operates 1 = .ok (.getfield 43, 3) := by decide +kernel
theorem dX7_operates_4 : decode cX7_operates 4 = .ok (.iconst 2, 1) := by decide +kernel
theorem dX7_operates_5 : decode cX7_operates 5 = .ok (.if_icmp .ne 35, 3) := by decide +kernel
theorem dX7_operates_8 : decode cX7_operates 8 = .ok (.aload_n 0, 1) := by decide +kernel
theorem dX7_operates_9 : decode cX7_operates 9 = .ok (.getfield 21, 3) := by decide +kernel
theorem dX7_operates_12 : decode cX7_operates 12 = .ok (.invokevirtual 107, 3) := by decide +kernel
theorem dX7_operates_15 : decode cX7_operates 15 = .ok (.iconst 2, 1) := by decide +kernel
theorem dX7_operates_16 : decode cX7_operates 16 = .ok (.if_icmp .ne 24, 3) := by decide +kernel
theorem dX7_operates_19 : decode cX7_operates 19 = .ok (.aload_n 0, 1) := by decide +kernel
theorem dX7_operates_20 : decode cX7_operates 20 = .ok (.getfield 12, 3) := by decide +kernel
theorem dX7_operates_23 : decode cX7_operates 23 = .ok (.aload_n 0, 1) := by decide +kernel
theorem dX7_operates_24 : decode cX7_operates 24 = .ok (.getfield 21, 3) := by decide +kernel
theorem dX7_operates_27 : decode cX7_operates 27 = .ok (.invokevirtual 77, 3) := by decide +kernel
theorem dX7_operates_30 : decode cX7_operates 30 = .ok (.invokevirtual 110, 3) := by decide +kernel
theorem dX7_operates_33 : decode cX7_operates 33 = .ok (.ifCond .eq 7, 3) := by decide +kernel
theorem dX7_operates_36 : decode cX7_operates 36 = .ok (.iconst 1, 1) := by decide +kernel
theorem dX7_operates_37 : decode cX7_operates 37 = .ok (.goto 4, 3) := by decide +kernel
theorem dX7_operates_40 : decode cX7_operates 40 = .ok (.iconst 0, 1) := by decide +kernel
theorem dX7_operates_41 : decode cX7_operates 41 = .ok (.ireturn, 1) := by decide +kernel
theorem dX7_compute_0 : decode cX7_compute 0 = .ok (.aload_n 0, 1) := by decide +kernel
theorem dX7_compute_1 : decode cX7_compute 1 = .ok (.iconst 1, 1) := by decide +kernel
theorem dX7_compute_2 : decode cX7_compute 2 = .ok (.putfield 43, 3) := by decide +kernel
theorem dX7_compute_5 : decode cX7_compute 5 = .ok (.aload_n 0, 1) := by decide +kernel
theorem dX7_compute_6 : decode cX7_compute 6 = .ok (.iload_n 1, 1) := by decide +kernel
theorem dX7_compute_7 : decode cX7_compute 7 = .ok (.putfield 52, 3) := by decide +kernel
theorem dX7_compute_10 : decode cX7_compute 10 = .ok (.aload_n 0, 1) := by decide +kernel
theorem dX7_compute_11 : decode cX7_compute 11 = .ok (.iload_n 2, 1) := by decide +kernel
theorem dX7_compute_12 : decode cX7_compute 12 = .ok (.putfield 55, 3) := by decide +kernel
theorem dX7_compute_15 : decode cX7_compute 15 = .ok (.return_, 1) := by decide +kernel
theorem dX7_giveBack_0 : decode cX7_giveBack 0 = .ok (.aload_n 0, 1) := by decide +kernel
theorem dX7_giveBack_1 : decode cX7_giveBack 1 = .ok (.iconst 2, 1) := by decide +kernel
theorem dX7_giveBack_2 : decode cX7_giveBack 2 = .ok (.putfield 43, 3) := by decide +kernel
theorem dX7_giveBack_5 : decode cX7_giveBack 5 = .ok (.aload_n 0, 1) := by decide +kernel
theorem dX7_giveBack_6 : decode cX7_giveBack 6 = .ok (.iload_n 1, 1) := by decide +kernel
theorem dX7_giveBack_7 : decode cX7_giveBack 7 = .ok (.putfield 58, 3) := by decide +kernel
theorem dX7_giveBack_10 : decode cX7_giveBack 10 = .ok (.return_, 1) := by decide +kernel
theorem dX7_end_0 : decode cX7_end 0 = .ok (.aload_n 0, 1) := by decide +kernel
theorem dX7_end_1 : decode cX7_end 1 = .ok (.bipush 10, 2) := by decide +kernel
theorem dX7_end_3 : decode cX7_end 3 = .ok (.iload_n 1, 1) := by decide +kernel
theorem dX7_end_4 : decode cX7_end 4 = .ok (.iadd, 1) := by decide +kernel
theorem dX7_end_5 : decode cX7_end 5 = .ok (.putfield 43, 3) := by decide +kernel
theorem dX7_end_8 : decode cX7_end 8 = .ok (.return_, 1) := by decide +kernel
theorem dX7_stepComputing_0 : decode cX7_stepComputing 0 = .ok (.aload_n 1, 1) := by decide +kernel
theorem dX7_stepComputing_1 : decode cX7_stepComputing 1 = .ok (.getfield 114, 3) := by decide +kernel
theorem dX7_stepComputing_4 : decode cX7_stepComputing 4 = .ok (.aload_n 0, 1) := by decide +kernel
theorem dX7_stepComputing_5 : decode cX7_stepComputing 5 = .ok (.getfield 52, 3) := by decide +kernel
theorem dX7_stepComputing_8 : decode cX7_stepComputing 8 = .ok (.invokestatic 120, 3) := by decide +kernel
theorem dX7_stepComputing_11 : decode cX7_stepComputing 11 = .ok (.tableswitch 109 0 6 #[41, 109, 109, 71, 109, 91, 101], 41) := by decide +kernel
theorem dX7_stepComputing_52 : decode cX7_stepComputing 52 = .ok (.aload_n 0, 1) := by decide +kernel
theorem dX7_stepComputing_53 : decode cX7_stepComputing 53 = .ok (.aload_n 0, 1) := by decide +kernel
theorem dX7_stepComputing_54 : decode cX7_stepComputing 54 = .ok (.getfield 12, 3) := by decide +kernel
theorem dX7_stepComputing_57 : decode cX7_stepComputing 57 = .ok (.aload_n 0, 1) := by decide +kernel
theorem dX7_stepComputing_58 : decode cX7_stepComputing 58 = .ok (.getfield 55, 3) := by decide +kernel
theorem dX7_stepComputing_61 : decode cX7_stepComputing 61 = .ok (.aload_n 1, 1) := by decide +kernel
theorem dX7_stepComputing_62 : decode cX7_stepComputing 62 = .ok (.getfield 124, 3) := by decide +kernel
theorem dX7_stepComputing_65 : decode cX7_stepComputing 65 = .ok (.aload_n 0, 1) := by decide +kernel
theorem dX7_stepComputing_66 : decode cX7_stepComputing 66 = .ok (.getfield 52, 3) := by decide +kernel
theorem dX7_stepComputing_69 : decode cX7_stepComputing 69 = .ok (.invokestatic 128, 3) := by decide +kernel
theorem dX7_stepComputing_72 : decode cX7_stepComputing 72 = .ok (.l2i, 1) := by decide +kernel
theorem dX7_stepComputing_73 : decode cX7_stepComputing 73 = .ok (.invokevirtual 132, 3) := by decide +kernel
theorem dX7_stepComputing_76 : decode cX7_stepComputing 76 = .ok (.invokevirtual 136, 3) := by decide +kernel
theorem dX7_stepComputing_79 : decode cX7_stepComputing 79 = .ok (.goto 46, 3) := by decide +kernel
theorem dX7_stepComputing_82 : decode cX7_stepComputing 82 = .ok (.aload_n 0, 1) := by decide +kernel
theorem dX7_stepComputing_83 : decode cX7_stepComputing 83 = .ok (.aload_n 1, 1) := by decide +kernel
theorem dX7_stepComputing_84 : decode cX7_stepComputing 84 = .ok (.iconst 1, 1) := by decide +kernel
theorem dX7_stepComputing_85 : decode cX7_stepComputing 85 = .ok (.aload_n 1, 1) := by decide +kernel
theorem dX7_stepComputing_86 : decode cX7_stepComputing 86 = .ok (.getfield 139, 3) := by decide +kernel
theorem dX7_stepComputing_89 : decode cX7_stepComputing 89 = .ok (.aload_n 0, 1) := by decide +kernel
theorem dX7_stepComputing_90 : decode cX7_stepComputing 90 = .ok (.getfield 52, 3) := by decide +kernel
theorem dX7_stepComputing_93 : decode cX7_stepComputing 93 = .ok (.invokestatic 120, 3) := by decide +kernel
theorem dX7_stepComputing_96 : decode cX7_stepComputing 96 = .ok (.invokevirtual 142, 3) := by decide +kernel
theorem dX7_stepComputing_99 : decode cX7_stepComputing 99 = .ok (.goto 26, 3) := by decide +kernel
theorem dX7_stepComputing_102 : decode cX7_stepComputing 102 = .ok (.aload_n 0, 1) := by decide +kernel
theorem dX7_stepComputing_103 : decode cX7_stepComputing 103 = .ok (.aload_n 1, 1) := by decide +kernel
theorem dX7_stepComputing_104 : decode cX7_stepComputing 104 = .ok (.iconst 0, 1) := by decide +kernel
theorem dX7_stepComputing_105 : decode cX7_stepComputing 105 = .ok (.iconst (-1), 1) := by decide +kernel
theorem dX7_stepComputing_106 : decode cX7_stepComputing 106 = .ok (.invokevirtual 142, 3) := by decide +kernel
theorem dX7_stepComputing_109 : decode cX7_stepComputing 109 = .ok (.goto 16, 3) := by decide +kernel
theorem dX7_stepComputing_112 : decode cX7_stepComputing 112 = .ok (.aload_n 0, 1) := by decide +kernel
theorem dX7_stepComputing_113 : decode cX7_stepComputing 113 = .ok (.iconst 2, 1) := by decide +kernel
theorem dX7_stepComputing_114 : decode cX7_stepComputing 114 = .ok (.invokevirtual 89, 3) := by decide +kernel
theorem dX7_stepComputing_117 : decode cX7_stepComputing 117 = .ok (.goto 8, 3) := by decide +kernel
theorem dX7_stepComputing_120 : decode cX7_stepComputing 120 = .ok (.aload_n 0, 1) := by decide +kernel
theorem dX7_stepComputing_121 : decode cX7_stepComputing 121 = .ok (.aload_n 1, 1) := by decide +kernel
theorem dX7_stepComputing_122 : decode cX7_stepComputing 122 = .ok (.invokevirtual 146, 3) := by decide +kernel
theorem dX7_stepComputing_125 : decode cX7_stepComputing 125 = .ok (.return_, 1) := by decide +kernel
theorem dX7_goInto_0 : decode cX7_goInto 0 = .ok (.aload_n 0, 1) := by decide +kernel
theorem dX7_goInto_1 : decode cX7_goInto 1 = .ok (.getfield 21, 3) := by decide +kernel
theorem dX7_goInto_4 : decode cX7_goInto 4 = .ok (.invokevirtual 149, 3) := by decide +kernel
theorem dX7_goInto_7 : decode cX7_goInto 7 = .ok (.ifCond .ne 10, 3) := by decide +kernel
theorem dX7_goInto_10 : decode cX7_goInto 10 = .ok (.aload_n 0, 1) := by decide +kernel
theorem dX7_goInto_11 : decode cX7_goInto 11 = .ok (.bipush 6, 2) := by decide +kernel
theorem dX7_goInto_13 : decode cX7_goInto 13 = .ok (.invokevirtual 89, 3) := by decide +kernel
theorem dX7_goInto_16 : decode cX7_goInto 16 = .ok (.return_, 1) := by decide +kernel
theorem dX7_goInto_17 : decode cX7_goInto 17 = .ok (.aload_n 0, 1) := by decide +kernel
theorem dX7_goInto_18 : decode cX7_goInto 18 = .ok (.getfield 21, 3) := by decide +kernel
theorem dX7_goInto_21 : decode cX7_goInto 21 = .ok (.iload_n 2, 1) := by decide +kernel
theorem dX7_goInto_22 : decode cX7_goInto 22 = .ok (.iload_n 3, 1) := by decide +kernel
theorem dX7_goInto_23 : decode cX7_goInto 23 = .ok (.aload_n 0, 1) := by decide +kernel
theorem dX7_goInto_24 : decode cX7_goInto 24 = .ok (.getfield 55, 3) := by decide +kernel
theorem dX7_goInto_27 : decode cX7_goInto 27 = .ok (.invokevirtual 152, 3) := by decide +kernel
theorem dX7_goInto_30 : decode cX7_goInto 30 = .ok (.aload_n 0, 1) := by decide +kernel
theorem dX7_goInto_31 : decode cX7_goInto 31 = .ok (.aload_n 1, 1) := by decide +kernel
theorem dX7_goInto_32 : decode cX7_goInto 32 = .ok (.getfield 156, 3) := by decide +kernel
theorem dX7_goInto_35 : decode cX7_goInto 35 = .ok (.aload_n 0, 1) := by decide +kernel
theorem dX7_goInto_36 : decode cX7_goInto 36 = .ok (.getfield 52, 3) := by decide +kernel
theorem dX7_goInto_39 : decode cX7_goInto 39 = .ok (.invokestatic 120, 3) := by decide +kernel
theorem dX7_goInto_42 : decode cX7_goInto 42 = .ok (.aload_n 0, 1) := by decide +kernel
theorem dX7_goInto_43 : decode cX7_goInto 43 = .ok (.getfield 55, 3) := by decide +kernel
theorem dX7_goInto_46 : decode cX7_goInto 46 = .ok (.invokevirtual 69, 3) := by decide +kernel
theorem dX7_goInto_49 : decode cX7_goInto 49 = .ok (.return_, 1) := by decide +kernel
theorem dX7_makeValue_0 : decode cX7_makeValue 0 = .ok (.aload_n 0, 1) := by decide +kernel
theorem dX7_makeValue_1 : decode cX7_makeValue 1 = .ok (.getfield 12, 3) := by decide +kernel
theorem dX7_makeValue_4 : decode cX7_makeValue 4 = .ok (.iconst 1, 1) := by decide +kernel
theorem dX7_makeValue_5 : decode cX7_makeValue 5 = .ok (.invokevirtual 159, 3) := by decide +kernel
theorem dX7_makeValue_8 : decode cX7_makeValue 8 = .ok (.ifCond .ne 10, 3) := by decide +kernel
theorem dX7_makeValue_11 : decode cX7_makeValue 11 = .ok (.aload_n 0, 1) := by decide +kernel
theorem dX7_makeValue_12 : decode cX7_makeValue 12 = .ok (.bipush 6, 2) := by decide +kernel
theorem dX7_makeValue_14 : decode cX7_makeValue 14 = .ok (.invokevirtual 89, 3) := by decide +kernel
theorem dX7_makeValue_17 : decode cX7_makeValue 17 = .ok (.return_, 1) := by decide +kernel
theorem dX7_makeValue_18 : decode cX7_makeValue 18 = .ok (.aload_n 1, 1) := by decide +kernel
theorem dX7_makeValue_19 : decode cX7_makeValue 19 = .ok (.getfield 156, 3) := by decide +kernel
theorem dX7_makeValue_22 : decode cX7_makeValue 22 = .ok (.aload_n 0, 1) := by decide +kernel
theorem dX7_makeValue_23 : decode cX7_makeValue 23 = .ok (.getfield 52, 3) := by decide +kernel
theorem dX7_makeValue_26 : decode cX7_makeValue 26 = .ok (.invokestatic 120, 3) := by decide +kernel
theorem dX7_makeValue_29 : decode cX7_makeValue 29 = .ok (.istore_n 2, 1) := by decide +kernel
theorem dX7_makeValue_30 : decode cX7_makeValue 30 = .ok (.aload_n 1, 1) := by decide +kernel
theorem dX7_makeValue_31 : decode cX7_makeValue 31 = .ok (.getfield 124, 3) := by decide +kernel
theorem dX7_makeValue_34 : decode cX7_makeValue 34 = .ok (.aload_n 0, 1) := by decide +kernel
theorem dX7_makeValue_35 : decode cX7_makeValue 35 = .ok (.getfield 52, 3) := by decide +kernel
theorem dX7_makeValue_38 : decode cX7_makeValue 38 = .ok (.invokestatic 128, 3) := by decide +kernel
theorem dX7_makeValue_41 : decode cX7_makeValue 41 = .ok (.lstore_n 3, 1) := by decide +kernel
theorem dX7_makeValue_42 : decode cX7_makeValue 42 = .ok (.aload_n 1, 1) := by decide +kernel
theorem dX7_makeValue_43 : decode cX7_makeValue 43 = .ok (.getfield 114, 3) := by decide +kernel
theorem dX7_makeValue_46 : decode cX7_makeValue 46 = .ok (.aload_n 0, 1) := by decide +kernel
theorem dX7_makeValue_47 : decode cX7_makeValue 47 = .ok (.getfield 52, 3) := by decide +kernel
theorem dX7_makeValue_50 : decode cX7_makeValue 50 = .ok (.invokestatic 120, 3) := by decide +kernel
theorem dX7_makeValue_53 : decode cX7_makeValue 53 = .ok (.tableswitch 91 1 4 #[31, 52, 91, 73], 31) := by decide +kernel
theorem dX7_makeValue_84 : decode cX7_makeValue 84 = .ok (.aload_n 0, 1) := by decide +kernel
theorem dX7_makeValue_85 : decode cX7_makeValue 85 = .ok (.aload_n 0, 1) := by decide +kernel
theorem dX7_makeValue_86 : decode cX7_makeValue 86 = .ok (.getfield 12, 3) := by decide +kernel
theorem dX7_makeValue_89 : decode cX7_makeValue 89 = .ok (.iconst 4, 1) := by decide +kernel
theorem dX7_makeValue_90 : decode cX7_makeValue 90 = .ok (.lconst 0, 1) := by decide +kernel
theorem dX7_makeValue_91 : decode cX7_makeValue 91 = .ok (.iload_n 2, 1) := by decide +kernel
theorem dX7_makeValue_92 : decode cX7_makeValue 92 = .ok (.aload_n 0, 1) := by decide +kernel
theorem dX7_makeValue_93 : decode cX7_makeValue 93 = .ok (.getfield 55, 3) := by decide +kernel
theorem dX7_makeValue_96 : decode cX7_makeValue 96 = .ok (.invokevirtual 161, 3) := by decide +kernel
theorem dX7_makeValue_99 : decode cX7_makeValue 99 = .ok (.invokevirtual 136, 3) := by decide +kernel
theorem dX7_makeValue_102 : decode cX7_makeValue 102 = .ok (.goto 58, 3) := by decide +kernel
theorem dX7_makeValue_105 : decode cX7_makeValue 105 = .ok (.aload_n 0, 1) := by decide +kernel
theorem dX7_makeValue_106 : decode cX7_makeValue 106 = .ok (.aload_n 0, 1) := by decide +kernel
theorem dX7_makeValue_107 : decode cX7_makeValue 107 = .ok (.getfield 12, 3) := by decide +kernel
theorem dX7_makeValue_110 : decode cX7_makeValue 110 = .ok (.iconst 5, 1) := by decide +kernel
theorem dX7_makeValue_111 : decode cX7_makeValue 111 = .ok (.lconst 0, 1) := by decide +kernel
theorem dX7_makeValue_112 : decode cX7_makeValue 112 = .ok (.iload_n 2, 1) := by decide +kernel
theorem dX7_makeValue_113 : decode cX7_makeValue 113 = .ok (.aload_n 0, 1) := by decide +kernel
theorem dX7_makeValue_114 : decode cX7_makeValue 114 = .ok (.getfield 55, 3) := by decide +kernel
theorem dX7_makeValue_117 : decode cX7_makeValue 117 = .ok (.invokevirtual 161, 3) := by decide +kernel
theorem dX7_makeValue_120 : decode cX7_makeValue 120 = .ok (.invokevirtual 136, 3) := by decide +kernel
theorem dX7_makeValue_123 : decode cX7_makeValue 123 = .ok (.goto 37, 3) := by decide +kernel
theorem dX7_makeValue_126 : decode cX7_makeValue 126 = .ok (.aload_n 0, 1) := by decide +kernel
theorem dX7_makeValue_127 : decode cX7_makeValue 127 = .ok (.aload_n 0, 1) := by decide +kernel
theorem dX7_makeValue_128 : decode cX7_makeValue 128 = .ok (.getfield 12, 3) := by decide +kernel
theorem dX7_makeValue_131 : decode cX7_makeValue 131 = .ok (.iload_n 2, 1) := by decide +kernel
theorem dX7_makeValue_132 : decode cX7_makeValue 132 = .ok (.lload_n 3, 1) := by decide +kernel
theorem dX7_makeValue_133 : decode cX7_makeValue 133 = .ok (.iconst (-1), 1) := by decide +kernel
theorem dX7_makeValue_134 : decode cX7_makeValue 134 = .ok (.iconst (-1), 1) := by decide +kernel
theorem dX7_makeValue_135 : decode cX7_makeValue 135 = .ok (.invokevirtual 161, 3) := by decide +kernel
theorem dX7_makeValue_138 : decode cX7_makeValue 138 = .ok (.invokevirtual 136, 3) := by decide +kernel
theorem dX7_makeValue_141 : decode cX7_makeValue 141 = .ok (.goto 19, 3) := by decide +kernel
theorem dX7_makeValue_144 : decode cX7_makeValue 144 = .ok (.aload_n 0, 1) := by decide +kernel
theorem dX7_makeValue_145 : decode cX7_makeValue 145 = .ok (.aload_n 0, 1) := by decide +kernel
theorem dX7_makeValue_146 : decode cX7_makeValue 146 = .ok (.getfield 12, 3) := by decide +kernel
theorem dX7_makeValue_149 : decode cX7_makeValue 149 = .ok (.bipush 6, 2) := by decide +kernel
theorem dX7_makeValue_151 : decode cX7_makeValue 151 = .ok (.lload_n 3, 1) := by decide +kernel
theorem dX7_makeValue_152 : decode cX7_makeValue 152 = .ok (.iconst (-1), 1) := by decide +kernel
theorem dX7_makeValue_153 : decode cX7_makeValue 153 = .ok (.iconst (-1), 1) := by decide +kernel
theorem dX7_makeValue_154 : decode cX7_makeValue 154 = .ok (.invokevirtual 161, 3) := by decide +kernel
theorem dX7_makeValue_157 : decode cX7_makeValue 157 = .ok (.invokevirtual 136, 3) := by decide +kernel
theorem dX7_makeValue_160 : decode cX7_makeValue 160 = .ok (.return_, 1) := by decide +kernel
theorem dX7_stepReturning_0 : decode cX7_stepReturning 0 = .ok (.aload_n 0, 1) := by decide +kernel
theorem dX7_stepReturning_1 : decode cX7_stepReturning 1 = .ok (.getfield 21, 3) := by decide +kernel
theorem dX7_stepReturning_4 : decode cX7_stepReturning 4 = .ok (.invokevirtual 107, 3) := by decide +kernel
theorem dX7_stepReturning_7 : decode cX7_stepReturning 7 = .ok (.lookupswitch 39 #[(0, 25), (1, 32)], 25) := by decide +kernel
theorem dX7_stepReturning_32 : decode cX7_stepReturning 32 = .ok (.aload_n 0, 1) := by decide +kernel
theorem dX7_stepReturning_33 : decode cX7_stepReturning 33 = .ok (.invokevirtual 164, 3) := by decide +kernel
theorem dX7_stepReturning_36 : decode cX7_stepReturning 36 = .ok (.goto 21, 3) := by decide +kernel
theorem dX7_stepReturning_39 : decode cX7_stepReturning 39 = .ok (.aload_n 0, 1) := by decide +kernel
theorem dX7_stepReturning_40 : decode cX7_stepReturning 40 = .ok (.invokevirtual 167, 3) := by decide +kernel
theorem dX7_stepReturning_43 : decode cX7_stepReturning 43 = .ok (.goto 14, 3) := by decide +kernel
theorem dX7_stepReturning_46 : decode cX7_stepReturning 46 = .ok (.aload_n 0, 1) := by decide +kernel
theorem dX7_stepReturning_47 : decode cX7_stepReturning 47 = .ok (.aload_n 0, 1) := by decide +kernel
theorem dX7_stepReturning_48 : decode cX7_stepReturning 48 = .ok (.getfield 21, 3) := by decide +kernel
theorem dX7_stepReturning_51 : decode cX7_stepReturning 51 = .ok (.invokevirtual 77, 3) := by decide +kernel
theorem dX7_stepReturning_54 : decode cX7_stepReturning 54 = .ok (.invokevirtual 170, 3) := by decide +kernel
theorem dX7_stepReturning_57 : decode cX7_stepReturning 57 = .ok (.return_, 1) := by decide +kernel
theorem dX7_forceValue_0 : decode cX7_forceValue 0 = .ok (.aload_n 0, 1) := by decide +kernel
theorem dX7_forceValue_1 : decode cX7_forceValue 1 = .ok (.getfield 12, 3) := by decide +kernel
theorem dX7_forceValue_4 : decode cX7_forceValue 4 = .ok (.getfield 173, 3) := by decide +kernel
theorem dX7_forceValue_7 : decode cX7_forceValue 7 = .ok (.aload_n 0, 1) := by decide +kernel
theorem dX7_forceValue_8 : decode cX7_forceValue 8 = .ok (.getfield 58, 3) := by decide +kernel
theorem dX7_forceValue_11 : decode cX7_forceValue 11 = .ok (.invokestatic 120, 3) := by decide +kernel
theorem dX7_forceValue_14 : decode cX7_forceValue 14 = .ok (.iconst 4, 1) := by decide +kernel
theorem dX7_forceValue_15 : decode cX7_forceValue 15 = .ok (.if_icmp .ne 45, 3) := by decide +kernel
theorem dX7_forceValue_18 : decode cX7_forceValue 18 = .ok (.aload_n 0, 1) := by decide +kernel
theorem dX7_forceValue_19 : decode cX7_forceValue 19 = .ok (.getfield 21, 3) := by decide +kernel
theorem dX7_forceValue_22 : decode cX7_forceValue 22 = .ok (.invokevirtual 174, 3) := by decide +kernel
theorem dX7_forceValue_25 : decode cX7_forceValue 25 = .ok (.aload_n 0, 1) := by decide +kernel
theorem dX7_forceValue_26 : decode cX7_forceValue 26 = .ok (.aload_n 0, 1) := by decide +kernel
theorem dX7_forceValue_27 : decode cX7_forceValue 27 = .ok (.getfield 12, 3) := by decide +kernel
theorem dX7_forceValue_30 : decode cX7_forceValue 30 = .ok (.getfield 177, 3) := by decide +kernel
theorem dX7_forceValue_33 : decode cX7_forceValue 33 = .ok (.aload_n 0, 1) := by decide +kernel
theorem dX7_forceValue_34 : decode cX7_forceValue 34 = .ok (.getfield 58, 3) := by decide +kernel
theorem dX7_forceValue_37 : decode cX7_forceValue 37 = .ok (.invokestatic 120, 3) := by decide +kernel
theorem dX7_forceValue_40 : decode cX7_forceValue 40 = .ok (.aload_n 0, 1) := by decide +kernel
theorem dX7_forceValue_41 : decode cX7_forceValue 41 = .ok (.getfield 12, 3) := by decide +kernel
theorem dX7_forceValue_44 : decode cX7_forceValue 44 = .ok (.getfield 180, 3) := by decide +kernel
theorem dX7_forceValue_47 : decode cX7_forceValue 47 = .ok (.aload_n 0, 1) := by decide +kernel
theorem dX7_forceValue_48 : decode cX7_forceValue 48 = .ok (.getfield 58, 3) := by decide +kernel
theorem dX7_forceValue_51 : decode cX7_forceValue 51 = .ok (.invokestatic 120, 3) := by decide +kernel
theorem dX7_forceValue_54 : decode cX7_forceValue 54 = .ok (.invokevirtual 69, 3) := by decide +kernel
theorem dX7_forceValue_57 : decode cX7_forceValue 57 = .ok (.goto 33, 3) := by decide +kernel
theorem dX7_forceValue_60 : decode cX7_forceValue 60 = .ok (.aload_n 0, 1) := by decide +kernel
theorem dX7_forceValue_61 : decode cX7_forceValue 61 = .ok (.getfield 12, 3) := by decide +kernel
theorem dX7_forceValue_64 : decode cX7_forceValue 64 = .ok (.aload_n 0, 1) := by decide +kernel
theorem dX7_forceValue_65 : decode cX7_forceValue 65 = .ok (.getfield 58, 3) := by decide +kernel
theorem dX7_forceValue_68 : decode cX7_forceValue 68 = .ok (.invokevirtual 183, 3) := by decide +kernel
theorem dX7_forceValue_71 : decode cX7_forceValue 71 = .ok (.ifCond .eq 15, 3) := by decide +kernel
theorem dX7_forceValue_74 : decode cX7_forceValue 74 = .ok (.aload_n 0, 1) := by decide +kernel
theorem dX7_forceValue_75 : decode cX7_forceValue 75 = .ok (.aload_n 0, 1) := by decide +kernel
theorem dX7_forceValue_76 : decode cX7_forceValue 76 = .ok (.getfield 58, 3) := by decide +kernel
theorem dX7_forceValue_79 : decode cX7_forceValue 79 = .ok (.iconst (-1), 1) := by decide +kernel
theorem dX7_forceValue_80 : decode cX7_forceValue 80 = .ok (.invokevirtual 186, 3) := by decide +kernel
theorem dX7_forceValue_83 : decode cX7_forceValue 83 = .ok (.goto 7, 3) := by decide +kernel
theorem dX7_forceValue_86 : decode cX7_forceValue 86 = .ok (.aload_n 0, 1) := by decide +kernel
theorem dX7_forceValue_87 : decode cX7_forceValue 87 = .ok (.invokevirtual 189, 3) := by decide +kernel
theorem dX7_forceValue_90 : decode cX7_forceValue 90 = .ok (.return_, 1) := by decide +kernel
theorem dX7_turnToArgument_0 : decode cX7_turnToArgument 0 = .ok (.aload_n 0, 1) := by decide +kernel
theorem dX7_turnToArgument_1 : decode cX7_turnToArgument 1 = .ok (.getfield 21, 3) := by decide +kernel
theorem dX7_turnToArgument_4 : decode cX7_turnToArgument 4 = .ok (.invokevirtual 77, 3) := by decide +kernel
theorem dX7_turnToArgument_7 : decode cX7_turnToArgument 7 = .ok (.istore_n 1, 1) := by decide +kernel
theorem dX7_turnToArgument_8 : decode cX7_turnToArgument 8 = .ok (.aload_n 0, 1) := by decide +kernel
theorem dX7_turnToArgument_9 : decode cX7_turnToArgument 9 = .ok (.getfield 21, 3) := by decide +kernel
theorem dX7_turnToArgument_12 : decode cX7_turnToArgument 12 = .ok (.invokevirtual 192, 3) := by decide +kernel
theorem dX7_turnToArgument_15 : decode cX7_turnToArgument 15 = .ok (.istore_n 2, 1) := by decide +kernel
theorem dX7_turnToArgument_16 : decode cX7_turnToArgument 16 = .ok (.aload_n 0, 1) := by decide +kernel
theorem dX7_turnToArgument_17 : decode cX7_turnToArgument 17 = .ok (.getfield 21, 3) := by decide +kernel
theorem dX7_turnToArgument_20 : decode cX7_turnToArgument 20 = .ok (.invokevirtual 174, 3) := by decide +kernel
theorem dX7_turnToArgument_23 : decode cX7_turnToArgument 23 = .ok (.aload_n 0, 1) := by decide +kernel
theorem dX7_turnToArgument_24 : decode cX7_turnToArgument 24 = .ok (.getfield 21, 3) := by decide +kernel
theorem dX7_turnToArgument_27 : decode cX7_turnToArgument 27 = .ok (.iconst 2, 1) := by decide +kernel
theorem dX7_turnToArgument_28 : decode cX7_turnToArgument 28 = .ok (.aload_n 0, 1) := by decide +kernel
theorem dX7_turnToArgument_29 : decode cX7_turnToArgument 29 = .ok (.getfield 58, 3) := by decide +kernel
theorem dX7_turnToArgument_32 : decode cX7_turnToArgument 32 = .ok (.iconst (-1), 1) := by decide +kernel
theorem dX7_turnToArgument_33 : decode cX7_turnToArgument 33 = .ok (.invokevirtual 152, 3) := by decide +kernel
theorem dX7_turnToArgument_36 : decode cX7_turnToArgument 36 = .ok (.aload_n 0, 1) := by decide +kernel
theorem dX7_turnToArgument_37 : decode cX7_turnToArgument 37 = .ok (.iload_n 1, 1) := by decide +kernel
theorem dX7_turnToArgument_38 : decode cX7_turnToArgument 38 = .ok (.iload_n 2, 1) := by decide +kernel
theorem dX7_turnToArgument_39 : decode cX7_turnToArgument 39 = .ok (.invokevirtual 69, 3) := by decide +kernel
theorem dX7_turnToArgument_42 : decode cX7_turnToArgument 42 = .ok (.return_, 1) := by decide +kernel
theorem dX7_applyFunction_0 : decode cX7_applyFunction 0 = .ok (.aload_n 0, 1) := by decide +kernel
theorem dX7_applyFunction_1 : decode cX7_applyFunction 1 = .ok (.getfield 12, 3) := by decide +kernel
theorem dX7_applyFunction_4 : decode cX7_applyFunction 4 = .ok (.getfield 173, 3) := by decide +kernel
theorem dX7_applyFunction_7 : decode cX7_applyFunction 7 = .ok (.iload_n 1, 1) := by decide +kernel
theorem dX7_applyFunction_8 : decode cX7_applyFunction 8 = .ok (.invokestatic 120, 3) := by decide +kernel
theorem dX7_applyFunction_11 : decode cX7_applyFunction 11 = .ok (.iconst 5, 1) := by decide +kernel
theorem dX7_applyFunction_12 : decode cX7_applyFunction 12 = .ok (.if_icmp .ne 11, 3) := by decide +kernel
theorem dX7_applyFunction_15 : decode cX7_applyFunction 15 = .ok (.aload_n 0, 1) := by decide +kernel
theorem dX7_applyFunction_16 : decode cX7_applyFunction 16 = .ok (.iload_n 1, 1) := by decide +kernel
theorem dX7_applyFunction_17 : decode cX7_applyFunction 17 = .ok (.invokevirtual 195, 3) := by decide +kernel
theorem dX7_applyFunction_20 : decode cX7_applyFunction 20 = .ok (.goto 30, 3) := by decide +kernel
theorem dX7_applyFunction_23 : decode cX7_applyFunction 23 = .ok (.aload_n 0, 1) := by decide +kernel
theorem dX7_applyFunction_24 : decode cX7_applyFunction 24 = .ok (.getfield 12, 3) := by decide +kernel
theorem dX7_applyFunction_27 : decode cX7_applyFunction 27 = .ok (.iload_n 1, 1) := by decide +kernel
theorem dX7_applyFunction_28 : decode cX7_applyFunction 28 = .ok (.invokevirtual 198, 3) := by decide +kernel
theorem dX7_applyFunction_31 : decode cX7_applyFunction 31 = .ok (.ifCond .eq 15, 3) := by decide +kernel
theorem dX7_applyFunction_34 : decode cX7_applyFunction 34 = .ok (.aload_n 0, 1) := by decide +kernel
theorem dX7_applyFunction_35 : decode cX7_applyFunction 35 = .ok (.iload_n 1, 1) := by decide +kernel
theorem dX7_applyFunction_36 : decode cX7_applyFunction 36 = .ok (.aload_n 0, 1) := by decide +kernel
theorem dX7_applyFunction_37 : decode cX7_applyFunction 37 = .ok (.getfield 58, 3) := by decide +kernel
theorem dX7_applyFunction_40 : decode cX7_applyFunction 40 = .ok (.invokevirtual 186, 3) := by decide +kernel
theorem dX7_applyFunction_43 : decode cX7_applyFunction 43 = .ok (.goto 7, 3) := by decide +kernel
theorem dX7_applyFunction_46 : decode cX7_applyFunction 46 = .ok (.aload_n 0, 1) := by decide +kernel
theorem dX7_applyFunction_47 : decode cX7_applyFunction 47 = .ok (.invokevirtual 189, 3) := by decide +kernel
theorem dX7_applyFunction_50 : decode cX7_applyFunction 50 = .ok (.return_, 1) := by decide +kernel
theorem dX7_enterFunction_0 : decode cX7_enterFunction 0 = .ok (.aload_n 0, 1) := by decide +kernel
theorem dX7_enterFunction_1 : decode cX7_enterFunction 1 = .ok (.getfield 12, 3) := by decide +kernel
theorem dX7_enterFunction_4 : decode cX7_enterFunction 4 = .ok (.iconst 1, 1) := by decide +kernel
theorem dX7_enterFunction_5 : decode cX7_enterFunction 5 = .ok (.invokevirtual 159, 3) := by decide +kernel
theorem dX7_enterFunction_8 : decode cX7_enterFunction 8 = .ok (.ifCond .ne 10, 3) := by decide +kernel
theorem dX7_enterFunction_11 : decode cX7_enterFunction 11 = .ok (.aload_n 0, 1) := by decide +kernel
theorem dX7_enterFunction_12 : decode cX7_enterFunction 12 = .ok (.bipush 6, 2) := by decide +kernel
theorem dX7_enterFunction_14 : decode cX7_enterFunction 14 = .ok (.invokevirtual 89, 3) := by decide +kernel
theorem dX7_enterFunction_17 : decode cX7_enterFunction 17 = .ok (.return_, 1) := by decide +kernel
theorem dX7_enterFunction_18 : decode cX7_enterFunction 18 = .ok (.aload_n 0, 1) := by decide +kernel
theorem dX7_enterFunction_19 : decode cX7_enterFunction 19 = .ok (.getfield 12, 3) := by decide +kernel
theorem dX7_enterFunction_22 : decode cX7_enterFunction 22 = .ok (.bipush 7, 2) := by decide +kernel
theorem dX7_enterFunction_24 : decode cX7_enterFunction 24 = .ok (.lconst 0, 1) := by decide +kernel
theorem dX7_enterFunction_25 : decode cX7_enterFunction 25 = .ok (.aload_n 0, 1) := by decide +kernel
theorem dX7_enterFunction_26 : decode cX7_enterFunction 26 = .ok (.getfield 58, 3) := by decide +kernel
theorem dX7_enterFunction_29 : decode cX7_enterFunction 29 = .ok (.aload_n 0, 1) := by decide +kernel
theorem dX7_enterFunction_30 : decode cX7_enterFunction 30 = .ok (.getfield 12, 3) := by decide +kernel
theorem dX7_enterFunction_33 : decode cX7_enterFunction 33 = .ok (.getfield 180, 3) := by decide +kernel
theorem dX7_enterFunction_36 : decode cX7_enterFunction 36 = .ok (.iload_n 1, 1) := by decide +kernel
theorem dX7_enterFunction_37 : decode cX7_enterFunction 37 = .ok (.invokestatic 120, 3) := by decide +kernel
theorem dX7_enterFunction_40 : decode cX7_enterFunction 40 = .ok (.invokevirtual 161, 3) := by decide +kernel
theorem dX7_enterFunction_43 : decode cX7_enterFunction 43 = .ok (.istore_n 2, 1) := by decide +kernel
theorem dX7_enterFunction_44 : decode cX7_enterFunction 44 = .ok (.aload_n 0, 1) := by decide +kernel
theorem dX7_enterFunction_45 : decode cX7_enterFunction 45 = .ok (.getfield 21, 3) := by decide +kernel
theorem dX7_enterFunction_48 : decode cX7_enterFunction 48 = .ok (.invokevirtual 174, 3) := by decide +kernel
theorem dX7_enterFunction_51 : decode cX7_enterFunction 51 = .ok (.aload_n 0, 1) := by decide +kernel
theorem dX7_enterFunction_52 : decode cX7_enterFunction 52 = .ok (.aload_n 0, 1) := by decide +kernel
theorem dX7_enterFunction_53 : decode cX7_enterFunction 53 = .ok (.getfield 12, 3) := by decide +kernel
theorem dX7_enterFunction_56 : decode cX7_enterFunction 56 = .ok (.getfield 177, 3) := by decide +kernel
theorem dX7_enterFunction_59 : decode cX7_enterFunction 59 = .ok (.iload_n 1, 1) := by decide +kernel
theorem dX7_enterFunction_60 : decode cX7_enterFunction 60 = .ok (.invokestatic 120, 3) := by decide +kernel
theorem dX7_enterFunction_63 : decode cX7_enterFunction 63 = .ok (.iload_n 2, 1) := by decide +kernel
theorem dX7_enterFunction_64 : decode cX7_enterFunction 64 = .ok (.invokevirtual 69, 3) := by decide +kernel
theorem dX7_enterFunction_67 : decode cX7_enterFunction 67 = .ok (.return_, 1) := by decide +kernel
theorem dX7_growPartial_0 : decode cX7_growPartial 0 = .ok (.aload_n 0, 1) := by decide +kernel
theorem dX7_growPartial_1 : decode cX7_growPartial 1 = .ok (.getfield 12, 3) := by decide +kernel
theorem dX7_growPartial_4 : decode cX7_growPartial 4 = .ok (.iconst 1, 1) := by decide +kernel
theorem dX7_growPartial_5 : decode cX7_growPartial 5 = .ok (.invokevirtual 159, 3) := by decide +kernel
theorem dX7_growPartial_8 : decode cX7_growPartial 8 = .ok (.ifCond .ne 10, 3) := by decide +kernel
theorem dX7_growPartial_11 : decode cX7_growPartial 11 = .ok (.aload_n 0, 1) := by decide +kernel
theorem dX7_growPartial_12 : decode cX7_growPartial 12 = .ok (.bipush 6, 2) := by decide +kernel
theorem dX7_growPartial_14 : decode cX7_growPartial 14 = .ok (.invokevirtual 89, 3) := by decide +kernel
theorem dX7_growPartial_17 : decode cX7_growPartial 17 = .ok (.return_, 1) := by decide +kernel
theorem dX7_growPartial_18 : decode cX7_growPartial 18 = .ok (.aload_n 0, 1) := by decide +kernel
theorem dX7_growPartial_19 : decode cX7_growPartial 19 = .ok (.getfield 21, 3) := by decide +kernel
theorem dX7_growPartial_22 : decode cX7_growPartial 22 = .ok (.invokevirtual 174, 3) := by decide +kernel
theorem dX7_growPartial_25 : decode cX7_growPartial 25 = .ok (.aload_n 0, 1) := by decide +kernel
theorem dX7_growPartial_26 : decode cX7_growPartial 26 = .ok (.aload_n 0, 1) := by decide +kernel
theorem dX7_growPartial_27 : decode cX7_growPartial 27 = .ok (.getfield 12, 3) := by decide +kernel
theorem dX7_growPartial_30 : decode cX7_growPartial 30 = .ok (.iload_n 1, 1) := by decide +kernel
theorem dX7_growPartial_31 : decode cX7_growPartial 31 = .ok (.iload_n 2, 1) := by decide +kernel
theorem dX7_growPartial_32 : decode cX7_growPartial 32 = .ok (.invokevirtual 201, 3) := by decide +kernel
theorem dX7_growPartial_35 : decode cX7_growPartial 35 = .ok (.invokevirtual 136, 3) := by decide +kernel
theorem dX7_growPartial_38 : decode cX7_growPartial 38 = .ok (.return_, 1) := by decide +kernel
theorem dX7_endUnfit_0 : decode cX7_endUnfit 0 = .ok (.aload_n 0, 1) := by decide +kernel
theorem dX7_endUnfit_1 : decode cX7_endUnfit 1 = .ok (.getfield 21, 3) := by decide +kernel
theorem dX7_endUnfit_4 : decode cX7_endUnfit 4 = .ok (.invokevirtual 174, 3) := by decide +kernel
theorem dX7_endUnfit_7 : decode cX7_endUnfit 7 = .ok (.aload_n 0, 1) := by decide +kernel
theorem dX7_endUnfit_8 : decode cX7_endUnfit 8 = .ok (.iconst 3, 1) := by decide +kernel
theorem dX7_endUnfit_9 : decode cX7_endUnfit 9 = .ok (.invokevirtual 89, 3) := by decide +kernel
theorem dX7_endUnfit_12 : decode cX7_endUnfit 12 = .ok (.return_, 1) := by decide +kernel
theorem dX7_stepOperating_0 : decode cX7_stepOperating 0 = .ok (.aload_n 0, 1) := by decide +kernel
theorem dX7_stepOperating_1 : decode cX7_stepOperating 1 = .ok (.getfield 28, 3) := by decide +kernel
theorem dX7_stepOperating_4 : decode cX7_stepOperating 4 = .ok (.aload_n 0, 1) := by decide +kernel
theorem dX7_stepOperating_5 : decode cX7_stepOperating 5 = .ok (.getfield 12, 3) := by decide +kernel
theorem dX7_stepOperating_8 : decode cX7_stepOperating 8 = .ok (.invokevirtual 204, 3) := by decide +kernel
theorem dX7_stepOperating_11 : decode cX7_stepOperating 11 = .ok (.aload_n 0, 1) := by decide +kernel
theorem dX7_stepOperating_12 : decode cX7_stepOperating 12 = .ok (.getfield 12, 3) := by decide +kernel
theorem dX7_stepOperating_15 : decode cX7_stepOperating 15 = .ok (.aload_n 0, 1) := by decide +kernel
theorem dX7_stepOperating_16 : decode cX7_stepOperating 16 = .ok (.getfield 28, 3) := by decide +kernel
theorem dX7_stepOperating_19 : decode cX7_stepOperating 19 = .ok (.invokevirtual 208, 3) := by decide +kernel
theorem dX7_stepOperating_22 : decode cX7_stepOperating 22 = .ok (.invokevirtual 159, 3) := by decide +kernel
theorem dX7_stepOperating_25 : decode cX7_stepOperating 25 = .ok (.ifCond .ne 10, 3) := by decide +kernel
theorem dX7_stepOperating_28 : decode cX7_stepOperating 28 = .ok (.aload_n 0, 1) := by decide +kernel
theorem dX7_stepOperating_29 : decode cX7_stepOperating 29 = .ok (.bipush 6, 2) := by decide +kernel
theorem dX7_stepOperating_31 : decode cX7_stepOperating 31 = .ok (.invokevirtual 89, 3) := by decide +kernel
theorem dX7_stepOperating_34 : decode cX7_stepOperating 34 = .ok (.return_, 1) := by decide +kernel
theorem dX7_stepOperating_35 : decode cX7_stepOperating 35 = .ok (.aload_n 0, 1) := by decide +kernel
theorem dX7_stepOperating_36 : decode cX7_stepOperating 36 = .ok (.getfield 12, 3) := by decide +kernel
theorem dX7_stepOperating_39 : decode cX7_stepOperating 39 = .ok (.aload_n 0, 1) := by decide +kernel
theorem dX7_stepOperating_40 : decode cX7_stepOperating 40 = .ok (.getfield 21, 3) := by decide +kernel
theorem dX7_stepOperating_43 : decode cX7_stepOperating 43 = .ok (.invokevirtual 77, 3) := by decide +kernel
theorem dX7_stepOperating_46 : decode cX7_stepOperating 46 = .ok (.aload_n 0, 1) := by decide +kernel
theorem dX7_stepOperating_47 : decode cX7_stepOperating 47 = .ok (.getfield 58, 3) := by decide +kernel
theorem dX7_stepOperating_50 : decode cX7_stepOperating 50 = .ok (.invokevirtual 201, 3) := by decide +kernel
theorem dX7_stepOperating_53 : decode cX7_stepOperating 53 = .ok (.pop, 1) := by decide +kernel
theorem dX7_stepOperating_54 : decode cX7_stepOperating 54 = .ok (.aload_n 0, 1) := by decide +kernel
theorem dX7_stepOperating_55 : decode cX7_stepOperating 55 = .ok (.getfield 21, 3) := by decide +kernel
theorem dX7_stepOperating_58 : decode cX7_stepOperating 58 = .ok (.invokevirtual 174, 3) := by decide +kernel
theorem dX7_stepOperating_61 : decode cX7_stepOperating 61 = .ok (.aload_n 0, 1) := by decide +kernel
theorem dX7_stepOperating_62 : decode cX7_stepOperating 62 = .ok (.getfield 28, 3) := by decide +kernel
theorem dX7_stepOperating_65 : decode cX7_stepOperating 65 = .ok (.getfield 211, 3) := by decide +kernel
theorem dX7_stepOperating_68 : decode cX7_stepOperating 68 = .ok (.ifCond .eq 11, 3) := by decide +kernel
theorem dX7_stepOperating_71 : decode cX7_stepOperating 71 = .ok (.aload_n 0, 1) := by decide +kernel
theorem dX7_stepOperating_72 : decode cX7_stepOperating 72 = .ok (.iconst 4, 1) := by decide +kernel
theorem dX7_stepOperating_73 : decode cX7_stepOperating 73 = .ok (.invokevirtual 89, 3) := by decide +kernel
theorem dX7_stepOperating_76 : decode cX7_stepOperating 76 = .ok (.goto 55, 3) := by decide +kernel
theorem dX7_stepOperating_79 : decode cX7_stepOperating 79 = .ok (.aload_n 0, 1) := by decide +kernel
theorem dX7_stepOperating_80 : decode cX7_stepOperating 80 = .ok (.getfield 28, 3) := by decide +kernel
theorem dX7_stepOperating_83 : decode cX7_stepOperating 83 = .ok (.getfield 215, 3) := by decide +kernel
theorem dX7_stepOperating_86 : decode cX7_stepOperating 86 = .ok (.iconst (-1), 1) := by decide +kernel
theorem dX7_stepOperating_87 : decode cX7_stepOperating 87 = .ok (.if_icmp .eq 17, 3) := by decide +kernel
theorem dX7_stepOperating_90 : decode cX7_stepOperating 90 = .ok (.aload_n 0, 1) := by decide +kernel
theorem dX7_stepOperating_91 : decode cX7_stepOperating 91 = .ok (.aload_n 0, 1) := by decide +kernel
theorem dX7_stepOperating_92 : decode cX7_stepOperating 92 = .ok (.getfield 28, 3) := by decide +kernel
theorem dX7_stepOperating_95 : decode cX7_stepOperating 95 = .ok (.getfield 215, 3) := by decide +kernel
theorem dX7_stepOperating_98 : decode cX7_stepOperating 98 = .ok (.invokevirtual 136, 3) := by decide +kernel
theorem dX7_stepOperating_101 : decode cX7_stepOperating 101 = .ok (.goto 30, 3) := by decide +kernel
theorem dX7_stepOperating_104 : decode cX7_stepOperating 104 = .ok (.aload_n 0, 1) := by decide +kernel
theorem dX7_stepOperating_105 : decode cX7_stepOperating 105 = .ok (.aload_n 0, 1) := by decide +kernel
theorem dX7_stepOperating_106 : decode cX7_stepOperating 106 = .ok (.getfield 12, 3) := by decide +kernel
theorem dX7_stepOperating_109 : decode cX7_stepOperating 109 = .ok (.aload_n 0, 1) := by decide +kernel
theorem dX7_stepOperating_110 : decode cX7_stepOperating 110 = .ok (.getfield 28, 3) := by decide +kernel
theorem dX7_stepOperating_113 : decode cX7_stepOperating 113 = .ok (.getfield 218, 3) := by decide +kernel
theorem dX7_stepOperating_116 : decode cX7_stepOperating 116 = .ok (.aload_n 0, 1) := by decide +kernel
theorem dX7_stepOperating_117 : decode cX7_stepOperating 117 = .ok (.getfield 28, 3) := by decide +kernel
theorem dX7_stepOperating_120 : decode cX7_stepOperating 120 = .ok (.getfield 220, 3) := by decide +kernel
theorem dX7_stepOperating_123 : decode cX7_stepOperating 123 = .ok (.iconst (-1), 1) := by decide +kernel
theorem dX7_stepOperating_124 : decode cX7_stepOperating 124 = .ok (.iconst (-1), 1) := by decide +kernel
theorem dX7_stepOperating_125 : decode cX7_stepOperating 125 = .ok (.invokevirtual 161, 3) := by decide +kernel
theorem dX7_stepOperating_128 : decode cX7_stepOperating 128 = .ok (.invokevirtual 136, 3) := by decide +kernel
theorem dX7_stepOperating_131 : decode cX7_stepOperating 131 = .ok (.return_, 1) := by decide +kernel
theorem dX8_init_0 : decode cX8_init 0 = .ok (.aload_n 0, 1) := by decide +kernel
theorem dX8_init_1 : decode cX8_init 1 = .ok (.invokespecial 1, 3) := by decide +kernel
theorem dX8_init_4 : decode cX8_init 4 = .ok (.aload_n 0, 1) := by decide +kernel
theorem dX8_init_5 : decode cX8_init 5 = .ok (.new 7, 3) := by decide +kernel
theorem dX8_init_8 : decode cX8_init 8 = .ok (.dup, 1) := by decide +kernel
theorem dX8_init_9 : decode cX8_init 9 = .ok (.invokespecial 9, 3) := by decide +kernel
theorem dX8_init_12 : decode cX8_init 12 = .ok (.putfield 10, 3) := by decide +kernel
theorem dX8_init_15 : decode cX8_init 15 = .ok (.aload_n 0, 1) := by decide +kernel
theorem dX8_init_16 : decode cX8_init 16 = .ok (.new 16, 3) := by decide +kernel
theorem dX8_init_19 : decode cX8_init 19 = .ok (.dup, 1) := by decide +kernel
theorem dX8_init_20 : decode cX8_init 20 = .ok (.invokespecial 18, 3) := by decide +kernel
theorem dX8_init_23 : decode cX8_init 23 = .ok (.putfield 19, 3) := by decide +kernel
theorem dX8_init_26 : decode cX8_init 26 = .ok (.aload_n 0, 1) := by decide +kernel
theorem dX8_init_27 : decode cX8_init 27 = .ok (.new 23, 3) := by decide +kernel
theorem dX8_init_30 : decode cX8_init 30 = .ok (.dup, 1) := by decide +kernel
theorem dX8_init_31 : decode cX8_init 31 = .ok (.invokespecial 25, 3) := by decide +kernel
theorem dX8_init_34 : decode cX8_init 34 = .ok (.putfield 26, 3) := by decide +kernel
theorem dX8_init_37 : decode cX8_init 37 = .ok (.aload_n 0, 1) := by decide +kernel
theorem dX8_init_38 : decode cX8_init 38 = .ok (.new 23, 3) := by decide +kernel
theorem dX8_init_41 : decode cX8_init 41 = .ok (.dup, 1) := by decide +kernel
theorem dX8_init_42 : decode cX8_init 42 = .ok (.invokespecial 25, 3) := by decide +kernel
theorem dX8_init_45 : decode cX8_init 45 = .ok (.putfield 30, 3) := by decide +kernel
theorem dX8_init_48 : decode cX8_init 48 = .ok (.return_, 1) := by decide +kernel
theorem dX8_text_0 : decode cX8_text 0 = .ok (.iload_n 2, 1) := by decide +kernel
theorem dX8_text_1 : decode cX8_text 1 = .ok (.iconst 1, 1) := by decide +kernel
theorem dX8_text_2 : decode cX8_text 2 = .ok (.if_icmp .lt 8, 3) := by decide +kernel
theorem dX8_text_5 : decode cX8_text 5 = .ok (.iload_n 2, 1) := by decide +kernel
theorem dX8_text_6 : decode cX8_text 6 = .ok (.iconst 4, 1) := by decide +kernel
theorem dX8_text_7 : decode cX8_text 7 = .ok (.if_icmp .le 13, 3) := by decide +kernel
theorem dX8_text_10 : decode cX8_text 10 = .ok (.new 33, 3) := by decide +kernel
theorem dX8_text_13 : decode cX8_text 13 = .ok (.dup, 1) := by decide +kernel
theorem dX8_text_14 : decode cX8_text 14 = .ok (.ldc 35, 2) := by decide +kernel
theorem dX8_text_16 : decode cX8_text 16 = .ok (.invokespecial 37, 3) := by decide +kernel
theorem dX8_text_19 : decode cX8_text 19 = .ok (.athrow, 1) := by decide +kernel
theorem dX8_text_20 : decode cX8_text 20 = .ok (.aload_n 0, 1) := by decide +kernel
theorem dX8_text_21 : decode cX8_text 21 = .ok (.getfield 10, 3) := by decide +kernel
theorem dX8_text_24 : decode cX8_text 24 = .ok (.getfield 40, 3) := by decide +kernel
theorem dX8_text_27 : decode cX8_text 27 = .ok (.iload_n 2, 1) := by decide +kernel
theorem dX8_text_28 : decode cX8_text 28 = .ok (.iadd, 1) := by decide +kernel
theorem dX8_text_29 : decode cX8_text 29 = .ok (.bipush 80, 2) := by decide +kernel
theorem dX8_text_31 : decode cX8_text 31 = .ok (.if_icmp .le 13, 3) := by decide +kernel
theorem dX8_text_34 : decode cX8_text 34 = .ok (.new 44, 3) := by decide +kernel
theorem dX8_text_37 : decode cX8_text 37 = .ok (.dup, 1) := by decide +kernel
theorem dX8_text_38 : decode cX8_text 38 = .ok (.ldc 46, 2) := by decide +kernel
theorem dX8_text_40 : decode cX8_text 40 = .ok (.invokespecial 48, 3) := by decide +kernel
theorem dX8_text_43 : decode cX8_text 43 = .ok (.athrow, 1) := by decide +kernel
theorem dX8_text_44 : decode cX8_text 44 = .ok (.iload_n 2, 1) := by decide +kernel
theorem dX8_text_45 : decode cX8_text 45 = .ok (.iconst 1, 1) := by decide +kernel
theorem dX8_text_46 : decode cX8_text 46 = .ok (.isub, 1) := by decide +kernel
theorem dX8_text_47 : decode cX8_text 47 = .ok (.istore_n 3, 1) := by decide +kernel
theorem dX8_text_48 : decode cX8_text 48 = .ok (.iload_n 3, 1) := by decide +kernel
theorem dX8_text_49 : decode cX8_text 49 = .ok (.ifCond .lt 22, 3) := by decide +kernel
theorem dX8_text_52 : decode cX8_text 52 = .ok (.aload_n 0, 1) := by decide +kernel
theorem dX8_text_53 : decode cX8_text 53 = .ok (.getfield 10, 3) := by decide +kernel
theorem dX8_text_56 : decode cX8_text 56 = .ok (.iload_n 1, 1) := by decide +kernel
theorem dX8_text_57 : decode cX8_text 57 = .ok (.bipush 8, 2) := by decide +kernel
theorem dX8_text_59 : decode cX8_text 59 = .ok (.iload_n 3, 1) := by decide +kernel
theorem dX8_text_60 : decode cX8_text 60 = .ok (.imul, 1) := by decide +kernel
theorem dX8_text_61 : decode cX8_text 61 = .ok (.ishr, 1) := by decide +kernel
theorem dX8_text_62 : decode cX8_text 62 = .ok (.invokevirtual 49, 3) := by decide +kernel
theorem dX8_text_65 : decode cX8_text 65 = .ok (.iinc 3 (-1), 3) := by decide +kernel
theorem dX8_text_68 : decode cX8_text 68 = .ok (.goto (-20), 3) := by decide +kernel
theorem dX8_text_71 : decode cX8_text 71 = .ok (.aload_n 0, 1) := by decide +kernel
theorem dX8_text_72 : decode cX8_text 72 = .ok (.getfield 10, 3) := by decide +kernel
theorem dX8_text_75 : decode cX8_text 75 = .ok (.getfield 40, 3) := by decide +kernel
theorem dX8_text_78 : decode cX8_text 78 = .ok (.ireturn, 1) := by decide +kernel
theorem dX8_read_0 : decode cX8_read 0 = .ok (.aload_n 0, 1) := by decide +kernel
theorem dX8_read_1 : decode cX8_read 1 = .ok (.getfield 30, 3) := by decide +kernel
theorem dX8_read_4 : decode cX8_read 4 = .ok (.aload_n 0, 1) := by decide +kernel
theorem dX8_read_5 : decode cX8_read 5 = .ok (.getfield 10, 3) := by decide +kernel
theorem dX8_read_8 : decode cX8_read 8 = .ok (.invokevirtual 53, 3) := by decide +kernel
theorem dX8_read_11 : decode cX8_read 11 = .ok (.aload_n 0, 1) := by decide +kernel
theorem dX8_read_12 : decode cX8_read 12 = .ok (.getfield 10, 3) := by decide +kernel
theorem dX8_read_15 : decode cX8_read 15 = .ok (.iconst 0, 1) := by decide +kernel
theorem dX8_read_16 : decode cX8_read 16 = .ok (.putfield 40, 3) := by decide +kernel
theorem dX8_read_19 : decode cX8_read 19 = .ok (.aload_n 0, 1) := by decide +kernel
theorem dX8_read_20 : decode cX8_read 20 = .ok (.getfield 10, 3) := by decide +kernel
theorem dX8_read_23 : decode cX8_read 23 = .ok (.getfield 57, 3) := by decide +kernel
theorem dX8_read_26 : decode cX8_read 26 = .ok (.iconst (-1), 1) := by decide +kernel
theorem dX8_read_27 : decode cX8_read 27 = .ok (.if_icmp .eq 13, 3) := by decide +kernel
theorem dX8_read_30 : decode cX8_read 30 = .ok (.iconst (-1), 1) := by decide +kernel
theorem dX8_read_31 : decode cX8_read 31 = .ok (.aload_n 0, 1) := by decide +kernel
theorem dX8_read_32 : decode cX8_read 32 = .ok (.getfield 10, 3) := by decide +kernel
theorem dX8_read_35 : decode cX8_read 35 = .ok (.getfield 57, 3) := by decide +kernel
theorem dX8_read_38 : decode cX8_read 38 = .ok (.isub, 1) := by decide +kernel
theorem dX8_read_39 : decode cX8_read 39 = .ok (.ireturn, 1) := by decide +kernel
theorem dX8_read_40 : decode cX8_read 40 = .ok (.aload_n 0, 1) := by decide +kernel
theorem dX8_read_41 : decode cX8_read 41 = .ok (.getfield 26, 3) := by decide +kernel
theorem dX8_read_44 : decode cX8_read 44 = .ok (.astore_n 1, 1) := by decide +kernel
theorem dX8_read_45 : decode cX8_read 45 = .ok (.aload_n 0, 1) := by decide +kernel
theorem dX8_read_46 : decode cX8_read 46 = .ok (.aload_n 0, 1) := by decide +kernel
theorem dX8_read_47 : decode cX8_read 47 = .ok (.getfield 30, 3) := by decide +kernel
theorem dX8_read_50 : decode cX8_read 50 = .ok (.putfield 26, 3) := by decide +kernel
theorem dX8_read_53 : decode cX8_read 53 = .ok (.aload_n 0, 1) := by decide +kernel
theorem dX8_read_54 : decode cX8_read 54 = .ok (.aload_n 1, 1) := by decide +kernel
theorem dX8_read_55 : decode cX8_read 55 = .ok (.putfield 30, 3) := by decide +kernel
theorem dX8_read_58 : decode cX8_read 58 = .ok (.aload_n 0, 1) := by decide +kernel
theorem dX8_read_59 : decode cX8_read 59 = .ok (.getfield 19, 3) := by decide +kernel
theorem dX8_read_62 : decode cX8_read 62 = .ok (.invokevirtual 60, 3) := by decide +kernel
theorem dX8_read_65 : decode cX8_read 65 = .ok (.aload_n 0, 1) := by decide +kernel
theorem dX8_read_66 : decode cX8_read 66 = .ok (.getfield 26, 3) := by decide +kernel
theorem dX8_read_69 : decode cX8_read 69 = .ok (.getfield 63, 3) := by decide +kernel
theorem dX8_read_72 : decode cX8_read 72 = .ok (.ireturn, 1) := by decide +kernel
theorem dX8_begin_0 : decode cX8_begin 0 = .ok (.iload_n 1, 1) := by decide +kernel
theorem dX8_begin_1 : decode cX8_begin 1 = .ok (.ifCond .lt 9, 3) := by decide +kernel
theorem dX8_begin_4 : decode cX8_begin 4 = .ok (.iload_n 1, 1) := by decide +kernel
theorem dX8_begin_5 : decode cX8_begin 5 = .ok (.ldc 66, 2) := by decide +kernel
theorem dX8_begin_7 : decode cX8_begin 7 = .ok (.if_icmp .le 13, 3) := by decide +kernel
theorem dX8_begin_10 : decode cX8_begin 10 = .ok (.new 33, 3) := by decide +kernel
theorem dX8_begin_13 : decode cX8_begin 13 = .ok (.dup, 1) := by decide +kernel
theorem dX8_begin_14 : decode cX8_begin 14 = .ok (.ldc 67, 2) := by decide +kernel
theorem dX8_begin_16 : decode cX8_begin 16 = .ok (.invokespecial 37, 3) := by decide +kernel
theorem dX8_begin_19 : decode cX8_begin 19 = .ok (.athrow, 1) := by decide +kernel
theorem dX8_begin_20 : decode cX8_begin 20 = .ok (.aload_n 0, 1) := by decide +kernel
theorem dX8_begin_21 : decode cX8_begin 21 = .ok (.getfield 26, 3) := by decide +kernel
theorem dX8_begin_24 : decode cX8_begin 24 = .ok (.getfield 63, 3) := by decide +kernel
theorem dX8_begin_27 : decode cX8_begin 27 = .ok (.ifCond .ne 13, 3) := by decide +kernel
theorem dX8_begin_30 : decode cX8_begin 30 = .ok (.new 44, 3) := by decide +kernel
theorem dX8_begin_33 : decode cX8_begin 33 = .ok (.dup, 1) := by decide +kernel
theorem dX8_begin_34 : decode cX8_begin 34 = .ok (.ldc 69, 2) := by decide +kernel
theorem dX8_begin_36 : decode cX8_begin 36 = .ok (.invokespecial 48, 3) := by decide +kernel
theorem dX8_begin_39 : decode cX8_begin 39 = .ok (.athrow, 1) := by decide +kernel
theorem dX8_begin_40 : decode cX8_begin 40 = .ok (.aload_n 0, 1) := by decide +kernel
theorem dX8_begin_41 : decode cX8_begin 41 = .ok (.getfield 19, 3) := by decide +kernel
theorem dX8_begin_44 : decode cX8_begin 44 = .ok (.iload_n 1, 1) := by decide +kernel
theorem dX8_begin_45 : decode cX8_begin 45 = .ok (.invokevirtual 71, 3) := by decide +kernel
theorem dX8_begin_48 : decode cX8_begin 48 = .ok (.iconst 1, 1) := by decide +kernel
theorem dX8_begin_49 : decode cX8_begin 49 = .ok (.ireturn, 1) := by decide +kernel
theorem dX8_run_0 : decode cX8_run 0 = .ok (.iload_n 1, 1) := by decide +kernel
theorem dX8_run_1 : decode cX8_run 1 = .ok (.iconst 1, 1) := by decide +kernel
theorem dX8_run_2 : decode cX8_run 2 = .ok (.if_icmp .lt 9, 3) := by decide +kernel
theorem dX8_run_5 : decode cX8_run 5 = .ok (.iload_n 1, 1) := by decide +kernel
theorem dX8_run_6 : decode cX8_run 6 = .ok (.bipush 100, 2) := by decide +kernel
theorem dX8_run_8 : decode cX8_run 8 = .ok (.if_icmp .le 13, 3) := by decide +kernel
theorem dX8_run_11 : decode cX8_run 11 = .ok (.new 33, 3) := by decide +kernel
theorem dX8_run_14 : decode cX8_run 14 = .ok (.dup, 1) := by decide +kernel
theorem dX8_run_15 : decode cX8_run 15 = .ok (.ldc 74, 2) := by decide +kernel
theorem dX8_run_17 : decode cX8_run 17 = .ok (.invokespecial 37, 3) := by decide +kernel
theorem dX8_run_20 : decode cX8_run 20 = .ok (.athrow, 1) := by decide +kernel
theorem dX8_run_21 : decode cX8_run 21 = .ok (.aload_n 0, 1) := by decide +kernel
theorem dX8_run_22 : decode cX8_run 22 = .ok (.getfield 19, 3) := by decide +kernel
theorem dX8_run_25 : decode cX8_run 25 = .ok (.getfield 76, 3) := by decide +kernel
theorem dX8_run_28 : decode cX8_run 28 = .ok (.ifCond .ne 13, 3) := by decide +kernel
theorem dX8_run_31 : decode cX8_run 31 = .ok (.new 44, 3) := by decide +kernel
theorem dX8_run_34 : decode cX8_run 34 = .ok (.dup, 1) := by decide +kernel
theorem dX8_run_35 : decode cX8_run 35 = .ok (.ldc 79, 2) := by decide +kernel
theorem dX8_run_37 : decode cX8_run 37 = .ok (.invokespecial 48, 3) := by decide +kernel
theorem dX8_run_40 : decode cX8_run 40 = .ok (.athrow, 1) := by decide +kernel
theorem dX8_run_41 : decode cX8_run 41 = .ok (.iconst 0, 1) := by decide +kernel
theorem dX8_run_42 : decode cX8_run 42 = .ok (.istore_n 2, 1) := by decide +kernel
theorem dX8_run_43 : decode cX8_run 43 = .ok (.iload_n 2, 1) := by decide +kernel
theorem dX8_run_44 : decode cX8_run 44 = .ok (.iload_n 1, 1) := by decide +kernel
theorem dX8_run_45 : decode cX8_run 45 = .ok (.if_icmp .ge 32, 3) := by decide +kernel
theorem dX8_run_48 : decode cX8_run 48 = .ok (.aload_n 0, 1) := by decide +kernel
theorem dX8_run_49 : decode cX8_run 49 = .ok (.getfield 19, 3) := by decide +kernel
theorem dX8_run_52 : decode cX8_run 52 = .ok (.getfield 76, 3) := by decide +kernel
theorem dX8_run_55 : decode cX8_run 55 = .ok (.bipush 10, 2) := by decide +kernel
theorem dX8_run_57 : decode cX8_run 57 = .ok (.if_icmp .ge 20, 3) := by decide +kernel
theorem dX8_run_60 : decode cX8_run 60 = .ok (.aload_n 0, 1) := by decide +kernel
theorem dX8_run_61 : decode cX8_run 61 = .ok (.getfield 19, 3) := by decide +kernel
theorem dX8_run_64 : decode cX8_run 64 = .ok (.aload_n 0, 1) := by decide +kernel
theorem dX8_run_65 : decode cX8_run 65 = .ok (.getfield 26, 3) := by decide +kernel
theorem dX8_run_68 : decode cX8_run 68 = .ok (.invokevirtual 81, 3) := by decide +kernel
theorem dX8_run_71 : decode cX8_run 71 = .ok (.iinc 2 1, 3) := by decide +kernel
theorem dX8_run_74 : decode cX8_run 74 = .ok (.goto (-31), 3) := by decide +kernel
theorem dX8_run_77 : decode cX8_run 77 = .ok (.iload_n 2, 1) := by decide +kernel
theorem dX8_run_78 : decode cX8_run 78 = .ok (.ireturn, 1) := by decide +kernel
theorem dX8_told_0 : decode cX8_told 0 = .ok (.aload_n 0, 1) := by decide +kernel
theorem dX8_told_1 : decode cX8_told 1 = .ok (.getfield 19, 3) := by decide +kernel
theorem dX8_told_4 : decode cX8_told 4 = .ok (.getfield 85, 3) := by decide +kernel
theorem dX8_told_7 : decode cX8_told 7 = .ok (.iload_n 1, 1) := by decide +kernel
theorem dX8_told_8 : decode cX8_told 8 = .ok (.invokevirtual 89, 3) := by decide +kernel
theorem dX8_told_11 : decode cX8_told 11 = .ok (.ireturn, 1) := by decide +kernel
theorem dX8_about_0 : decode cX8_about 0 = .ok (.iload_n 1, 1) := by decide +kernel
theorem dX8_about_1 : decode cX8_about 1 = .ok (.tableswitch 132 0 8 #[51, 59, 67, 75, 83, 91, 99, 110, 121], 51) := by decide +kernel
theorem dX8_about_52 : decode cX8_about 52 = .ok (.aload_n 0, 1) := by decide +kernel
theorem dX8_about_53 : decode cX8_about 53 = .ok (.getfield 10, 3) := by decide +kernel
theorem dX8_about_56 : decode cX8_about 56 = .ok (.getfield 40, 3) := by decide +kernel
theorem dX8_about_59 : decode cX8_about 59 = .ok (.ireturn, 1) := by decide +kernel
theorem dX8_about_60 : decode cX8_about 60 = .ok (.aload_n 0, 1) := by decide +kernel
theorem dX8_about_61 : decode cX8_about 61 = .ok (.getfield 26, 3) := by decide +kernel
theorem dX8_about_64 : decode cX8_about 64 = .ok (.getfield 63, 3) := by decide +kernel
theorem dX8_about_67 : decode cX8_about 67 = .ok (.ireturn, 1) := by decide +kernel
theorem dX8_about_68 : decode cX8_about 68 = .ok (.aload_n 0, 1) := by decide +kernel
theorem dX8_about_69 : decode cX8_about 69 = .ok (.getfield 26, 3) := by decide +kernel
theorem dX8_about_72 : decode cX8_about 72 = .ok (.getfield 95, 3) := by decide +kernel
theorem dX8_about_75 : decode cX8_about 75 = .ok (.ireturn, 1) := by decide +kernel
theorem dX8_about_76 : decode cX8_about 76 = .ok (.aload_n 0, 1) := by decide +kernel
theorem dX8_about_77 : decode cX8_about 77 = .ok (.getfield 19, 3) := by decide +kernel
theorem dX8_about_80 : decode cX8_about 80 = .ok (.getfield 76, 3) := by decide +kernel
theorem dX8_about_83 : decode cX8_about 83 = .ok (.ireturn, 1) := by decide +kernel
theorem dX8_about_84 : decode cX8_about 84 = .ok (.aload_n 0, 1) := by decide +kernel
theorem dX8_about_85 : decode cX8_about 85 = .ok (.getfield 19, 3) := by decide +kernel
theorem dX8_about_88 : decode cX8_about 88 = .ok (.getfield 98, 3) := by decide +kernel
theorem dX8_about_91 : decode cX8_about 91 = .ok (.ireturn, 1) := by decide +kernel
theorem dX8_about_92 : decode cX8_about 92 = .ok (.aload_n 0, 1) := by decide +kernel
theorem dX8_about_93 : decode cX8_about 93 = .ok (.getfield 19, 3) := by decide +kernel
theorem dX8_about_96 : decode cX8_about 96 = .ok (.getfield 101, 3) := by decide +kernel
theorem dX8_about_99 : decode cX8_about 99 = .ok (.ireturn, 1) := by decide +kernel
theorem dX8_about_100 : decode cX8_about 100 = .ok (.aload_n 0, 1) := by decide +kernel
theorem dX8_about_101 : decode cX8_about 101 = .ok (.getfield 19, 3) := by decide +kernel
theorem dX8_about_104 : decode cX8_about 104 = .ok (.getfield 104, 3) := by decide +kernel
theorem dX8_about_107 : decode cX8_about 107 = .ok (.getfield 108, 3) := by decide +kernel
theorem dX8_about_110 : decode cX8_about 110 = .ok (.ireturn, 1) := by decide +kernel
theorem dX8_about_111 : decode cX8_about 111 = .ok (.aload_n 0, 1) := by decide +kernel
theorem dX8_about_112 : decode cX8_about 112 = .ok (.getfield 19, 3) := by decide +kernel
theorem dX8_about_115 : decode cX8_about 115 = .ok (.getfield 111, 3) := by decide +kernel
theorem dX8_about_118 : decode cX8_about 118 = .ok (.getfield 115, 3) := by decide +kernel
theorem dX8_about_121 : decode cX8_about 121 = .ok (.ireturn, 1) := by decide +kernel
theorem dX8_about_122 : decode cX8_about 122 = .ok (.aload_n 0, 1) := by decide +kernel
theorem dX8_about_123 : decode cX8_about 123 = .ok (.getfield 19, 3) := by decide +kernel
theorem dX8_about_126 : decode cX8_about 126 = .ok (.getfield 85, 3) := by decide +kernel
theorem dX8_about_129 : decode cX8_about 129 = .ok (.getfield 118, 3) := by decide +kernel
theorem dX8_about_132 : decode cX8_about 132 = .ok (.ireturn, 1) := by decide +kernel
theorem dX8_about_133 : decode cX8_about 133 = .ok (.iconst (-1), 1) := by decide +kernel
theorem dX8_about_134 : decode cX8_about 134 = .ok (.ireturn, 1) := by decide +kernel
theorem dX8_at_0 : decode cX8_at 0 = .ok (.iload_n 1, 1) := by decide +kernel
theorem dX8_at_1 : decode cX8_at 1 = .ok (.ifCond .lt 15, 3) := by decide +kernel
theorem dX8_at_4 : decode cX8_at 4 = .ok (.iload_n 1, 1) := by decide +kernel
theorem dX8_at_5 : decode cX8_at 5 = .ok (.aload_n 0, 1) := by decide +kernel
theorem dX8_at_6 : decode cX8_at 6 = .ok (.arraylength, 1) := by decide +kernel
theorem dX8_at_7 : decode cX8_at 7 = .ok (.if_icmp .ge 9, 3) := by decide +kernel
theorem dX8_at_10 : decode cX8_at 10 = .ok (.aload_n 0, 1) := by decide +kernel
theorem dX8_at_11 : decode cX8_at 11 = .ok (.iload_n 1, 1) := by decide +kernel
theorem dX8_at_12 : decode cX8_at 12 = .ok (.iaload, 1) := by decide +kernel
theorem dX8_at_13 : decode cX8_at 13 = .ok (.goto 4, 3) := by decide +kernel
theorem dX8_at_16 : decode cX8_at 16 = .ok (.iconst (-1), 1) := by decide +kernel
theorem dX8_at_17 : decode cX8_at 17 = .ok (.ireturn, 1) := by decide +kernel
theorem dX8_longAt_0 : decode cX8_longAt 0 = .ok (.iload_n 1, 1) := by decide +kernel
theorem dX8_longAt_1 : decode cX8_longAt 1 = .ok (.ifCond .lt 15, 3) := by decide +kernel
theorem dX8_longAt_4 : decode cX8_longAt 4 = .ok (.iload_n 1, 1) := by decide +kernel
theorem dX8_longAt_5 : decode cX8_longAt 5 = .ok (.aload_n 0, 1) := by decide +kernel
theorem dX8_longAt_6 : decode cX8_longAt 6 = .ok (.arraylength, 1) := by decide +kernel
theorem dX8_longAt_7 : decode cX8_longAt 7 = .ok (.if_icmp .ge 9, 3) := by decide +kernel
theorem dX8_longAt_10 : decode cX8_longAt 10 = .ok (.aload_n 0, 1) := by decide +kernel
theorem dX8_longAt_11 : decode cX8_longAt 11 = .ok (.iload_n 1, 1) := by decide +kernel
theorem dX8_longAt_12 : decode cX8_longAt 12 = .ok (.laload, 1) := by decide +kernel
theorem dX8_longAt_13 : decode cX8_longAt 13 = .ok (.goto 4, 3) := by decide +kernel
theorem dX8_longAt_16 : decode cX8_longAt 16 = .ok (.lconst 0, 1) := by decide +kernel
theorem dX8_longAt_17 : decode cX8_longAt 17 = .ok (.lreturn, 1) := by decide +kernel
theorem dL_text_0 : decode cL_text 0 = .ok (.aload_n 3, 1) := by decide +kernel
theorem dL_text_1 : decode cL_text 1 = .ok (.iconst 0, 1) := by decide +kernel
theorem dL_text_2 : decode cL_text 2 = .ok (.aload_n 0, 1) := by decide +kernel
theorem dL_text_3 : decode cL_text 3 = .ok (.iload_n 1, 1) := by decide +kernel
theorem dL_text_4 : decode cL_text 4 = .ok (.iload_n 2, 1) := by decide +kernel
theorem dL_text_5 : decode cL_text 5 = .ok (.invokevirtual 7, 3) := by decide +kernel
theorem dL_text_8 : decode cL_text 8 = .ok (.i2l, 1) := by decide +kernel
theorem dL_text_9 : decode cL_text 9 = .ok (.lastore, 1) := by decide +kernel
theorem dL_text_10 : decode cL_text 10 = .ok (.goto 11, 3) := by decide +kernel
theorem dL_text_13 : decode cL_text 13 = .ok (.astore 4, 2) := by decide +kernel
theorem dL_text_15 : decode cL_text 15 = .ok (.iconst 1, 1) := by decide +kernel
theorem dL_text_16 : decode cL_text 16 = .ok (.ireturn, 1) := by decide +kernel
theorem dL_text_17 : decode cL_text 17 = .ok (.astore 4, 2) := by decide +kernel
theorem dL_text_19 : decode cL_text 19 = .ok (.iconst 2, 1) := by decide +kernel
theorem dL_text_20 : decode cL_text 20 = .ok (.ireturn, 1) := by decide +kernel
theorem dL_text_21 : decode cL_text 21 = .ok (.iconst 0, 1) := by decide +kernel
theorem dL_text_22 : decode cL_text 22 = .ok (.ireturn, 1) := by decide +kernel
theorem dL_begin_0 : decode cL_begin 0 = .ok (.aload_n 2, 1) := by decide +kernel
theorem dL_begin_1 : decode cL_begin 1 = .ok (.iconst 0, 1) := by decide +kernel
theorem dL_begin_2 : decode cL_begin 2 = .ok (.aload_n 0, 1) := by decide +kernel
theorem dL_begin_3 : decode cL_begin 3 = .ok (.iload_n 1, 1) := by decide +kernel
theorem dL_begin_4 : decode cL_begin 4 = .ok (.invokevirtual 17, 3) := by decide +kernel
theorem dL_begin_7 : decode cL_begin 7 = .ok (.ifCond .eq 7, 3) := by decide +kernel
theorem dL_begin_10 : decode cL_begin 10 = .ok (.lconst 1, 1) := by decide +kernel
theorem dL_begin_11 : decode cL_begin 11 = .ok (.goto 4, 3) := by decide +kernel
theorem dL_begin_14 : decode cL_begin 14 = .ok (.lconst 0, 1) := by decide +kernel
theorem dL_begin_15 : decode cL_begin 15 = .ok (.lastore, 1) := by decide +kernel
theorem dL_begin_16 : decode cL_begin 16 = .ok (.goto 9, 3) := by decide +kernel
theorem dL_begin_19 : decode cL_begin 19 = .ok (.astore_n 3, 1) := by decide +kernel
theorem dL_begin_20 : decode cL_begin 20 = .ok (.iconst 1, 1) := by decide +kernel
theorem dL_begin_21 : decode cL_begin 21 = .ok (.ireturn, 1) := by decide +kernel
theorem dL_begin_22 : decode cL_begin 22 = .ok (.astore_n 3, 1) := by decide +kernel
theorem dL_begin_23 : decode cL_begin 23 = .ok (.iconst 2, 1) := by decide +kernel
theorem dL_begin_24 : decode cL_begin 24 = .ok (.ireturn, 1) := by decide +kernel
theorem dL_begin_25 : decode cL_begin 25 = .ok (.iconst 0, 1) := by decide +kernel
theorem dL_begin_26 : decode cL_begin 26 = .ok (.ireturn, 1) := by decide +kernel
theorem dL_run_0 : decode cL_run 0 = .ok (.aload_n 2, 1) := by decide +kernel
theorem dL_run_1 : decode cL_run 1 = .ok (.iconst 0, 1) := by decide +kernel
theorem dL_run_2 : decode cL_run 2 = .ok (.aload_n 0, 1) := by decide +kernel
theorem dL_run_3 : decode cL_run 3 = .ok (.iload_n 1, 1) := by decide +kernel
theorem dL_run_4 : decode cL_run 4 = .ok (.invokevirtual 21, 3) := by decide +kernel
theorem dL_run_7 : decode cL_run 7 = .ok (.i2l, 1) := by decide +kernel
theorem dL_run_8 : decode cL_run 8 = .ok (.lastore, 1) := by decide +kernel
theorem dL_run_9 : decode cL_run 9 = .ok (.goto 9, 3) := by decide +kernel
theorem dL_run_12 : decode cL_run 12 = .ok (.astore_n 3, 1) := by decide +kernel
theorem dL_run_13 : decode cL_run 13 = .ok (.iconst 1, 1) := by decide +kernel
theorem dL_run_14 : decode cL_run 14 = .ok (.ireturn, 1) := by decide +kernel
theorem dL_run_15 : decode cL_run 15 = .ok (.astore_n 3, 1) := by decide +kernel
theorem dL_run_16 : decode cL_run 16 = .ok (.iconst 2, 1) := by decide +kernel
theorem dL_run_17 : decode cL_run 17 = .ok (.ireturn, 1) := by decide +kernel
theorem dL_run_18 : decode cL_run 18 = .ok (.iconst 0, 1) := by decide +kernel
theorem dL_run_19 : decode cL_run 19 = .ok (.ireturn, 1) := by decide +kernel
theorem dL_law_0 : decode cL_law 0 = .ok (.new 8, 3) := by decide +kernel
theorem dL_law_3 : decode cL_law 3 = .ok (.dup, 1) := by decide +kernel
theorem dL_law_4 : decode cL_law 4 = .ok (.invokespecial 25, 3) := by decide +kernel
theorem dL_law_7 : decode cL_law 7 = .ok (.astore_n 1, 1) := by decide +kernel
theorem dL_law_8 : decode cL_law 8 = .ok (.new 26, 3) := by decide +kernel
theorem dL_law_11 : decode cL_law 11 = .ok (.dup, 1) := by decide +kernel
theorem dL_law_12 : decode cL_law 12 = .ok (.invokespecial 28, 3) := by decide +kernel
theorem dL_law_15 : decode cL_law 15 = .ok (.astore_n 2, 1) := by decide +kernel
theorem dL_law_16 : decode cL_law 16 = .ok (.iconst 1, 1) := by decide +kernel
theorem dL_law_17 : decode cL_law 17 = .ok (.newarray .long, 2) := by decide +kernel
theorem dL_law_19 : decode cL_law 19 = .ok (.astore_n 3, 1) := by decide +kernel
theorem dL_law_20 : decode cL_law 20 = .ok (.iconst 0, 1) := by decide +kernel
theorem dL_law_21 : decode cL_law 21 = .ok (.istore 4, 2) := by decide +kernel
theorem dL_law_23 : decode cL_law 23 = .ok (.iload 4, 2) := by decide +kernel
theorem dL_law_25 : decode cL_law 25 = .ok (.aload_n 0, 1) := by decide +kernel
theorem dL_law_26 : decode cL_law 26 = .ok (.arraylength, 1) := by decide +kernel
theorem dL_law_27 : decode cL_law 27 = .ok (.iconst 3, 1) := by decide +kernel
theorem dL_law_28 : decode cL_law 28 = .ok (.isub, 1) := by decide +kernel
theorem dL_law_29 : decode cL_law 29 = .ok (.if_icmp .gt 303, 3) := by decide +kernel
theorem dL_law_32 : decode cL_law 32 = .ok (.aload_n 0, 1) := by decide +kernel
theorem dL_law_33 : decode cL_law 33 = .ok (.iload 4, 2) := by decide +kernel
theorem dL_law_35 : decode cL_law 35 = .ok (.iaload, 1) := by decide +kernel
theorem dL_law_36 : decode cL_law 36 = .ok (.bipush 7, 2) := by decide +kernel
theorem dL_law_38 : decode cL_law 38 = .ok (.iand, 1) := by decide +kernel
theorem dL_law_39 : decode cL_law 39 = .ok (.tableswitch 287 0 5 #[37, 105, 118, 181, 237, 262], 37) := by decide +kernel
theorem dL_law_76 : decode cL_law 76 = .ok (.aload_n 1, 1) := by decide +kernel
theorem dL_law_77 : decode cL_law 77 = .ok (.aload_n 0, 1) := by decide +kernel
theorem dL_law_78 : decode cL_law 78 = .ok (.iload 4, 2) := by decide +kernel
theorem dL_law_80 : decode cL_law 80 = .ok (.iconst 1, 1) := by decide +kernel
theorem dL_law_81 : decode cL_law 81 = .ok (.iadd, 1) := by decide +kernel
theorem dL_law_82 : decode cL_law 82 = .ok (.iaload, 1) := by decide +kernel
theorem dL_law_83 : decode cL_law 83 = .ok (.aload_n 0, 1) := by decide +kernel
theorem dL_law_84 : decode cL_law 84 = .ok (.iload 4, 2) := by decide +kernel
theorem dL_law_86 : decode cL_law 86 = .ok (.iconst 2, 1) := by decide +kernel
theorem dL_law_87 : decode cL_law 87 = .ok (.iadd, 1) := by decide +kernel
theorem dL_law_88 : decode cL_law 88 = .ok (.iaload, 1) := by decide +kernel
theorem dL_law_89 : decode cL_law 89 = .ok (.aload_n 3, 1) := by decide +kernel
theorem dL_law_90 : decode cL_law 90 = .ok (.invokestatic 29, 3) := by decide +kernel
theorem dL_law_93 : decode cL_law 93 = .ok (.istore 5, 2) := by decide +kernel
theorem dL_law_95 : decode cL_law 95 = .ok (.aload_n 2, 1) := by decide +kernel
theorem dL_law_96 : decode cL_law 96 = .ok (.aload_n 0, 1) := by decide +kernel
theorem dL_law_97 : decode cL_law 97 = .ok (.iload 4, 2) := by decide +kernel
theorem dL_law_99 : decode cL_law 99 = .ok (.iconst 1, 1) := by decide +kernel
theorem dL_law_100 : decode cL_law 100 = .ok (.iadd, 1) := by decide +kernel
theorem dL_law_101 : decode cL_law 101 = .ok (.iaload, 1) := by decide +kernel
theorem dL_law_102 : decode cL_law 102 = .ok (.aload_n 0, 1) := by decide +kernel
theorem dL_law_103 : decode cL_law 103 = .ok (.iload 4, 2) := by decide +kernel
theorem dL_law_105 : decode cL_law 105 = .ok (.iconst 2, 1) := by decide +kernel
theorem dL_law_106 : decode cL_law 106 = .ok (.iadd, 1) := by decide +kernel
theorem dL_law_107 : decode cL_law 107 = .ok (.iaload, 1) := by decide +kernel
theorem dL_law_108 : decode cL_law 108 = .ok (.invokevirtual 34, 3) := by decide +kernel
theorem dL_law_111 : decode cL_law 111 = .ok (.istore 6, 2) := by decide +kernel
theorem dL_law_113 : decode cL_law 113 = .ok (.aload_n 2, 1) := by decide +kernel
theorem dL_law_114 : decode cL_law 114 = .ok (.invokevirtual 35, 3) := by decide +kernel
theorem dL_law_117 : decode cL_law 117 = .ok (.iload 5, 2) := by decide +kernel
theorem dL_law_119 : decode cL_law 119 = .ok (.if_icmp .eq 5, 3) := by decide +kernel
theorem dL_law_122 : decode cL_law 122 = .ok (.iconst 0, 1) := by decide +kernel
theorem dL_law_123 : decode cL_law 123 = .ok (.ireturn, 1) := by decide +kernel
theorem dL_law_124 : decode cL_law 124 = .ok (.iload 5, 2) := by decide +kernel
theorem dL_law_126 : decode cL_law 126 = .ok (.ifCond .ne 15, 3) := by decide +kernel
theorem dL_law_129 : decode cL_law 129 = .ok (.aload_n 3, 1) := by decide +kernel
theorem dL_law_130 : decode cL_law 130 = .ok (.iconst 0, 1) := by decide +kernel
theorem dL_law_131 : decode cL_law 131 = .ok (.laload, 1) := by decide +kernel
theorem dL_law_132 : decode cL_law 132 = .ok (.iload 6, 2) := by decide +kernel
theorem dL_law_134 : decode cL_law 134 = .ok (.i2l, 1) := by decide +kernel
theorem dL_law_135 : decode cL_law 135 = .ok (.lcmp, 1) := by decide +kernel
theorem dL_law_136 : decode cL_law 136 = .ok (.ifCond .eq 5, 3) := by decide +kernel
theorem dL_law_139 : decode cL_law 139 = .ok (.iconst 0, 1) := by decide +kernel
theorem dL_law_140 : decode cL_law 140 = .ok (.ireturn, 1) := by decide +kernel
theorem dL_law_141 : decode cL_law 141 = .ok (.goto 185, 3) := by decide +kernel
theorem dL_law_144 : decode cL_law 144 = .ok (.aload_n 1, 1) := by decide +kernel
theorem dL_law_145 : decode cL_law 145 = .ok (.invokevirtual 39, 3) := by decide +kernel
theorem dL_law_148 : decode cL_law 148 = .ok (.aload_n 2, 1) := by decide +kernel
theorem dL_law_149 : decode cL_law 149 = .ok (.invokevirtual 42, 3) := by decide +kernel
theorem dL_law_152 : decode cL_law 152 = .ok (.if_icmp .eq 174, 3) := by decide +kernel
theorem dL_law_155 : decode cL_law 155 = .ok (.iconst 0, 1) := by decide +kernel
theorem dL_law_156 : decode cL_law 156 = .ok (.ireturn, 1) := by decide +kernel
theorem dL_law_157 : decode cL_law 157 = .ok (.aload_n 1, 1) := by decide +kernel
theorem dL_law_158 : decode cL_law 158 = .ok (.aload_n 0, 1) := by decide +kernel
theorem dL_law_159 : decode cL_law 159 = .ok (.iload 4, 2) := by decide +kernel
theorem dL_law_161 : decode cL_law 161 = .ok (.iconst 1, 1) := by decide +kernel
theorem dL_law_162 : decode cL_law 162 = .ok (.iadd, 1) := by decide +kernel
theorem dL_law_163 : decode cL_law 163 = .ok (.iaload, 1) := by decide +kernel
theorem dL_law_164 : decode cL_law 164 = .ok (.aload_n 3, 1) := by decide +kernel
theorem dL_law_165 : decode cL_law 165 = .ok (.invokestatic 43, 3) := by decide +kernel
theorem dL_law_168 : decode cL_law 168 = .ok (.istore 5, 2) := by decide +kernel
theorem dL_law_170 : decode cL_law 170 = .ok (.aload_n 2, 1) := by decide +kernel
theorem dL_law_171 : decode cL_law 171 = .ok (.aload_n 0, 1) := by decide +kernel
theorem dL_law_172 : decode cL_law 172 = .ok (.iload 4, 2) := by decide +kernel
theorem dL_law_174 : decode cL_law 174 = .ok (.iconst 1, 1) := by decide +kernel
theorem dL_law_175 : decode cL_law 175 = .ok (.iadd, 1) := by decide +kernel
theorem dL_law_176 : decode cL_law 176 = .ok (.iaload, 1) := by decide +kernel
theorem dL_law_177 : decode cL_law 177 = .ok (.invokevirtual 46, 3) := by decide +kernel
theorem dL_law_180 : decode cL_law 180 = .ok (.istore 6, 2) := by decide +kernel
theorem dL_law_182 : decode cL_law 182 = .ok (.aload_n 2, 1) := by decide +kernel
theorem dL_law_183 : decode cL_law 183 = .ok (.invokevirtual 35, 3) := by decide +kernel
theorem dL_law_186 : decode cL_law 186 = .ok (.iload 5, 2) := by decide +kernel
theorem dL_law_188 : decode cL_law 188 = .ok (.if_icmp .eq 5, 3) := by decide +kernel
theorem dL_law_191 : decode cL_law 191 = .ok (.iconst 0, 1) := by decide +kernel
theorem dL_law_192 : decode cL_law 192 = .ok (.ireturn, 1) := by decide +kernel
theorem dL_law_193 : decode cL_law 193 = .ok (.iload 5, 2) := by decide +kernel
theorem dL_law_195 : decode cL_law 195 = .ok (.ifCond .ne 22, 3) := by decide +kernel
theorem dL_law_198 : decode cL_law 198 = .ok (.aload_n 3, 1) := by decide +kernel
theorem dL_law_199 : decode cL_law 199 = .ok (.iconst 0, 1) := by decide +kernel
theorem dL_law_200 : decode cL_law 200 = .ok (.laload, 1) := by decide +kernel
theorem dL_law_201 : decode cL_law 201 = .ok (.iload 6, 2) := by decide +kernel
theorem dL_law_203 : decode cL_law 203 = .ok (.ifCond .eq 7, 3) := by decide +kernel
theorem dL_law_206 : decode cL_law 206 = .ok (.lconst 1, 1) := by decide +kernel
theorem dL_law_207 : decode cL_law 207 = .ok (.goto 4, 3) := by decide +kernel
theorem dL_law_210 : decode cL_law 210 = .ok (.lconst 0, 1) := by decide +kernel
theorem dL_law_211 : decode cL_law 211 = .ok (.lcmp, 1) := by decide +kernel
theorem dL_law_212 : decode cL_law 212 = .ok (.ifCond .eq 5, 3) := by decide +kernel
theorem dL_law_215 : decode cL_law 215 = .ok (.iconst 0, 1) := by decide +kernel
theorem dL_law_216 : decode cL_law 216 = .ok (.ireturn, 1) := by decide +kernel
theorem dL_law_217 : decode cL_law 217 = .ok (.goto 109, 3) := by decide +kernel
theorem dL_law_220 : decode cL_law 220 = .ok (.aload_n 1, 1) := by decide +kernel
theorem dL_law_221 : decode cL_law 221 = .ok (.aload_n 0, 1) := by decide +kernel
theorem dL_law_222 : decode cL_law 222 = .ok (.iload 4, 2) := by decide +kernel
theorem dL_law_224 : decode cL_law 224 = .ok (.iconst 1, 1) := by decide +kernel
theorem dL_law_225 : decode cL_law 225 = .ok (.iadd, 1) := by decide +kernel
theorem dL_law_226 : decode cL_law 226 = .ok (.iaload, 1) := by decide +kernel
theorem dL_law_227 : decode cL_law 227 = .ok (.aload_n 3, 1) := by decide +kernel
theorem dL_law_228 : decode cL_law 228 = .ok (.invokestatic 47, 3) := by decide +kernel
theorem dL_law_231 : decode cL_law 231 = .ok (.istore 5, 2) := by decide +kernel
theorem dL_law_233 : decode cL_law 233 = .ok (.aload_n 2, 1) := by decide +kernel
theorem dL_law_234 : decode cL_law 234 = .ok (.aload_n 0, 1) := by decide +kernel
theorem dL_law_235 : decode cL_law 235 = .ok (.iload 4, 2) := by decide +kernel
theorem dL_law_237 : decode cL_law 237 = .ok (.iconst 1, 1) := by decide +kernel
theorem dL_law_238 : decode cL_law 238 = .ok (.iadd, 1) := by decide +kernel
theorem dL_law_239 : decode cL_law 239 = .ok (.iaload, 1) := by decide +kernel
theorem dL_law_240 : decode cL_law 240 = .ok (.invokevirtual 49, 3) := by decide +kernel
theorem dL_law_243 : decode cL_law 243 = .ok (.istore 6, 2) := by decide +kernel
theorem dL_law_245 : decode cL_law 245 = .ok (.aload_n 2, 1) := by decide +kernel
theorem dL_law_246 : decode cL_law 246 = .ok (.invokevirtual 35, 3) := by decide +kernel
theorem dL_law_249 : decode cL_law 249 = .ok (.iload 5, 2) := by decide +kernel
theorem dL_law_251 : decode cL_law 251 = .ok (.if_icmp .eq 5, 3) := by decide +kernel
theorem dL_law_254 : decode cL_law 254 = .ok (.iconst 0, 1) := by decide +kernel
theorem dL_law_255 : decode cL_law 255 = .ok (.ireturn, 1) := by decide +kernel
theorem dL_law_256 : decode cL_law 256 = .ok (.iload 5, 2) := by decide +kernel
theorem dL_law_258 : decode cL_law 258 = .ok (.ifCond .ne 15, 3) := by decide +kernel
theorem dL_law_261 : decode cL_law 261 = .ok (.aload_n 3, 1) := by decide +kernel
theorem dL_law_262 : decode cL_law 262 = .ok (.iconst 0, 1) := by decide +kernel
theorem dL_law_263 : decode cL_law 263 = .ok (.laload, 1) := by decide +kernel
theorem dL_law_264 : decode cL_law 264 = .ok (.iload 6, 2) := by decide +kernel
theorem dL_law_266 : decode cL_law 266 = .ok (.i2l, 1) := by decide +kernel
theorem dL_law_267 : decode cL_law 267 = .ok (.lcmp, 1) := by decide +kernel
theorem dL_law_268 : decode cL_law 268 = .ok (.ifCond .eq 5, 3) := by decide +kernel
theorem dL_law_271 : decode cL_law 271 = .ok (.iconst 0, 1) := by decide +kernel
theorem dL_law_272 : decode cL_law 272 = .ok (.ireturn, 1) := by decide +kernel
theorem dL_law_273 : decode cL_law 273 = .ok (.goto 53, 3) := by decide +kernel
theorem dL_law_276 : decode cL_law 276 = .ok (.aload_n 1, 1) := by decide +kernel
theorem dL_law_277 : decode cL_law 277 = .ok (.aload_n 0, 1) := by decide +kernel
theorem dL_law_278 : decode cL_law 278 = .ok (.iload 4, 2) := by decide +kernel
theorem dL_law_280 : decode cL_law 280 = .ok (.iconst 1, 1) := by decide +kernel
theorem dL_law_281 : decode cL_law 281 = .ok (.iadd, 1) := by decide +kernel
theorem dL_law_282 : decode cL_law 282 = .ok (.iaload, 1) := by decide +kernel
theorem dL_law_283 : decode cL_law 283 = .ok (.invokevirtual 50, 3) := by decide +kernel
theorem dL_law_286 : decode cL_law 286 = .ok (.aload_n 2, 1) := by decide +kernel
theorem dL_law_287 : decode cL_law 287 = .ok (.aload_n 0, 1) := by decide +kernel
theorem dL_law_288 : decode cL_law 288 = .ok (.iload 4, 2) := by decide +kernel
theorem dL_law_290 : decode cL_law 290 = .ok (.iconst 1, 1) := by decide +kernel
theorem dL_law_291 : decode cL_law 291 = .ok (.iadd, 1) := by decide +kernel
theorem dL_law_292 : decode cL_law 292 = .ok (.iaload, 1) := by decide +kernel
theorem dL_law_293 : decode cL_law 293 = .ok (.invokevirtual 53, 3) := by decide +kernel
theorem dL_law_296 : decode cL_law 296 = .ok (.if_icmp .eq 30, 3) := by decide +kernel
theorem dL_law_299 : decode cL_law 299 = .ok (.iconst 0, 1) := by decide +kernel
theorem dL_law_300 : decode cL_law 300 = .ok (.ireturn, 1) := by decide +kernel
theorem dL_law_301 : decode cL_law 301 = .ok (.aload_n 1, 1) := by decide +kernel
theorem dL_law_302 : decode cL_law 302 = .ok (.aload_n 0, 1) := by decide +kernel
theorem dL_law_303 : decode cL_law 303 = .ok (.iload 4, 2) := by decide +kernel
theorem dL_law_305 : decode cL_law 305 = .ok (.iconst 1, 1) := by decide +kernel
theorem dL_law_306 : decode cL_law 306 = .ok (.iadd, 1) := by decide +kernel
theorem dL_law_307 : decode cL_law 307 = .ok (.iaload, 1) := by decide +kernel
theorem dL_law_308 : decode cL_law 308 = .ok (.invokevirtual 54, 3) := by decide +kernel
theorem dL_law_311 : decode cL_law 311 = .ok (.aload_n 2, 1) := by decide +kernel
theorem dL_law_312 : decode cL_law 312 = .ok (.aload_n 0, 1) := by decide +kernel
theorem dL_law_313 : decode cL_law 313 = .ok (.iload 4, 2) := by decide +kernel
theorem dL_law_315 : decode cL_law 315 = .ok (.iconst 1, 1) := by decide +kernel
theorem dL_law_316 : decode cL_law 316 = .ok (.iadd, 1) := by decide +kernel
theorem dL_law_317 : decode cL_law 317 = .ok (.iaload, 1) := by decide +kernel
theorem dL_law_318 : decode cL_law 318 = .ok (.invokevirtual 57, 3) := by decide +kernel
theorem dL_law_321 : decode cL_law 321 = .ok (.if_icmp .eq 5, 3) := by decide +kernel
theorem dL_law_324 : decode cL_law 324 = .ok (.iconst 0, 1) := by decide +kernel
theorem dL_law_325 : decode cL_law 325 = .ok (.ireturn, 1) := by decide +kernel
theorem dL_law_326 : decode cL_law 326 = .ok (.iinc 4 3, 3) := by decide +kernel
theorem dL_law_329 : decode cL_law 329 = .ok (.goto (-306), 3) := by decide +kernel
theorem dL_law_332 : decode cL_law 332 = .ok (.iconst 1, 1) := by decide +kernel
theorem dL_law_333 : decode cL_law 333 = .ok (.ireturn, 1) := by decide +kernel
