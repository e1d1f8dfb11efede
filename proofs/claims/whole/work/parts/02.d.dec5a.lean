theorem dX5_init_0 : decode cX5_init 0 = .ok (.aload_n 0, 1) := by decide +kernel
theorem dX5_init_1 : decode cX5_init 1 = .ok (.invokespecial 1, 3) := by decide +kernel
theorem dX5_init_4 : decode cX5_init 4 = .ok (.aload_n 0, 1) := by decide +kernel
theorem dX5_init_5 : decode cX5_init 5 = .ok (.iconst 4, 1) := by decide +kernel
theorem dX5_init_6 : decode cX5_init 6 = .ok (.newarray .int, 2) := by decide +kernel
theorem dX5_init_8 : decode cX5_init 8 = .ok (.putfield 7, 3) := by decide +kernel
theorem dX5_init_11 : decode cX5_init 11 = .ok (.aload_n 0, 1) := by decide +kernel
theorem dX5_init_12 : decode cX5_init 12 = .ok (.iconst 4, 1) := by decide +kernel
theorem dX5_init_13 : decode cX5_init 13 = .ok (.newarray .boolean, 2) := by decide +kernel
theorem dX5_init_15 : decode cX5_init 15 = .ok (.putfield 13, 3) := by decide +kernel
theorem dX5_init_18 : decode cX5_init 18 = .ok (.aload_n 0, 1) := by decide +kernel
theorem dX5_init_19 : decode cX5_init 19 = .ok (.bipush 60, 2) := by decide +kernel
theorem dX5_init_21 : decode cX5_init 21 = .ok (.newarray .int, 2) := by decide +kernel
theorem dX5_init_23 : decode cX5_init 23 = .ok (.putfield 17, 3) := by decide +kernel
theorem dX5_init_26 : decode cX5_init 26 = .ok (.aload_n 0, 1) := by decide +kernel
theorem dX5_init_27 : decode cX5_init 27 = .ok (.bipush 60, 2) := by decide +kernel
theorem dX5_init_29 : decode cX5_init 29 = .ok (.newarray .int, 2) := by decide +kernel
theorem dX5_init_31 : decode cX5_init 31 = .ok (.putfield 20, 3) := by decide +kernel
theorem dX5_init_34 : decode cX5_init 34 = .ok (.aload_n 0, 1) := by decide +kernel
theorem dX5_init_35 : decode cX5_init 35 = .ok (.bipush 60, 2) := by decide +kernel
theorem dX5_init_37 : decode cX5_init 37 = .ok (.newarray .int, 2) := by decide +kernel
theorem dX5_init_39 : decode cX5_init 39 = .ok (.putfield 23, 3) := by decide +kernel
theorem dX5_init_42 : decode cX5_init 42 = .ok (.aload_n 0, 1) := by decide +kernel
theorem dX5_init_43 : decode cX5_init 43 = .ok (.bipush 60, 2) := by decide +kernel
theorem dX5_init_45 : decode cX5_init 45 = .ok (.newarray .int, 2) := by decide +kernel
theorem dX5_init_47 : decode cX5_init 47 = .ok (.putfield 26, 3) := by decide +kernel
theorem dX5_init_50 : decode cX5_init 50 = .ok (.aload_n 0, 1) := by decide +kernel
theorem dX5_init_51 : decode cX5_init 51 = .ok (.iconst (-1), 1) := by decide +kernel
theorem dX5_init_52 : decode cX5_init 52 = .ok (.putfield 29, 3) := by decide +kernel
theorem dX5_init_55 : decode cX5_init 55 = .ok (.aload_n 0, 1) := by decide +kernel
theorem dX5_init_56 : decode cX5_init 56 = .ok (.bipush 40, 2) := by decide +kernel
theorem dX5_init_58 : decode cX5_init 58 = .ok (.newarray .int, 2) := by decide +kernel
theorem dX5_init_60 : decode cX5_init 60 = .ok (.putfield 33, 3) := by decide +kernel
theorem dX5_init_63 : decode cX5_init 63 = .ok (.aload_n 0, 1) := by decide +kernel
theorem dX5_init_64 : decode cX5_init 64 = .ok (.bipush 40, 2) := by decide +kernel
theorem dX5_init_66 : decode cX5_init 66 = .ok (.newarray .int, 2) := by decide +kernel
theorem dX5_init_68 : decode cX5_init 68 = .ok (.putfield 36, 3) := by decide +kernel
theorem dX5_init_71 : decode cX5_init 71 = .ok (.aload_n 0, 1) := by decide +kernel
theorem dX5_init_72 : decode cX5_init 72 = .ok (.bipush 40, 2) := by decide +kernel
theorem dX5_init_74 : decode cX5_init 74 = .ok (.newarray .int, 2) := by decide +kernel
theorem dX5_init_76 : decode cX5_init 76 = .ok (.putfield 39, 3) := by decide +kernel
theorem dX5_init_79 : decode cX5_init 79 = .ok (.aload_n 0, 1) := by decide +kernel
theorem dX5_init_80 : decode cX5_init 80 = .ok (.bipush 40, 2) := by decide +kernel
theorem dX5_init_82 : decode cX5_init 82 = .ok (.newarray .int, 2) := by decide +kernel
theorem dX5_init_84 : decode cX5_init 84 = .ok (.putfield 42, 3) := by decide +kernel
theorem dX5_init_87 : decode cX5_init 87 = .ok (.aload_n 0, 1) := by decide +kernel
theorem dX5_init_88 : decode cX5_init 88 = .ok (.bipush 40, 2) := by decide +kernel
theorem dX5_init_90 : decode cX5_init 90 = .ok (.newarray .boolean, 2) := by decide +kernel
theorem dX5_init_92 : decode cX5_init 92 = .ok (.putfield 45, 3) := by decide +kernel
theorem dX5_init_95 : decode cX5_init 95 = .ok (.aload_n 0, 1) := by decide +kernel
theorem dX5_init_96 : decode cX5_init 96 = .ok (.bipush 40, 2) := by decide +kernel
theorem dX5_init_98 : decode cX5_init 98 = .ok (.bipush 60, 2) := by decide +kernel
theorem dX5_init_100 : decode cX5_init 100 = .ok (.multianewarray 48 2, 4) := by decide +kernel
theorem dX5_init_104 : decode cX5_init 104 = .ok (.putfield 50, 3) := by decide +kernel
theorem dX5_init_107 : decode cX5_init 107 = .ok (.aload_n 0, 1) := by decide +kernel
theorem dX5_init_108 : decode cX5_init 108 = .ok (.sipush 4096, 3) := by decide +kernel
theorem dX5_init_111 : decode cX5_init 111 = .ok (.newarray .int, 2) := by decide +kernel
theorem dX5_init_113 : decode cX5_init 113 = .ok (.putfield 53, 3) := by decide +kernel
theorem dX5_init_116 : decode cX5_init 116 = .ok (.aload_n 0, 1) := by decide +kernel
theorem dX5_init_117 : decode cX5_init 117 = .ok (.sipush 4096, 3) := by decide +kernel
theorem dX5_init_120 : decode cX5_init 120 = .ok (.newarray .int, 2) := by decide +kernel
theorem dX5_init_122 : decode cX5_init 122 = .ok (.putfield 56, 3) := by decide +kernel
theorem dX5_init_125 : decode cX5_init 125 = .ok (.aload_n 0, 1) := by decide +kernel
theorem dX5_init_126 : decode cX5_init 126 = .ok (.bipush 60, 2) := by decide +kernel
theorem dX5_init_128 : decode cX5_init 128 = .ok (.newarray .boolean, 2) := by decide +kernel
theorem dX5_init_130 : decode cX5_init 130 = .ok (.putfield 59, 3) := by decide +kernel
theorem dX5_init_133 : decode cX5_init 133 = .ok (.aload_n 0, 1) := by decide +kernel
theorem dX5_init_134 : decode cX5_init 134 = .ok (.bipush 16, 2) := by decide +kernel
theorem dX5_init_136 : decode cX5_init 136 = .ok (.newarray .int, 2) := by decide +kernel
theorem dX5_init_138 : decode cX5_init 138 = .ok (.putfield 62, 3) := by decide +kernel
theorem dX5_init_141 : decode cX5_init 141 = .ok (.aload_n 0, 1) := by decide +kernel
theorem dX5_init_142 : decode cX5_init 142 = .ok (.bipush 8, 2) := by decide +kernel
theorem dX5_init_144 : decode cX5_init 144 = .ok (.newarray .int, 2) := by decide +kernel
theorem dX5_init_146 : decode cX5_init 146 = .ok (.putfield 65, 3) := by decide +kernel
theorem dX5_init_149 : decode cX5_init 149 = .ok (.aload_n 0, 1) := by decide +kernel
theorem dX5_init_150 : decode cX5_init 150 = .ok (.bipush 60, 2) := by decide +kernel
theorem dX5_init_152 : decode cX5_init 152 = .ok (.newarray .int, 2) := by decide +kernel
theorem dX5_init_154 : decode cX5_init 154 = .ok (.putfield 68, 3) := by decide +kernel
theorem dX5_init_157 : decode cX5_init 157 = .ok (.aload_n 0, 1) := by decide +kernel
theorem dX5_init_158 : decode cX5_init 158 = .ok (.bipush 16, 2) := by decide +kernel
theorem dX5_init_160 : decode cX5_init 160 = .ok (.newarray .int, 2) := by decide +kernel
theorem dX5_init_162 : decode cX5_init 162 = .ok (.putfield 71, 3) := by decide +kernel
theorem dX5_init_165 : decode cX5_init 165 = .ok (.aload_n 0, 1) := by decide +kernel
theorem dX5_init_166 : decode cX5_init 166 = .ok (.bipush 8, 2) := by decide +kernel
theorem dX5_init_168 : decode cX5_init 168 = .ok (.newarray .int, 2) := by decide +kernel
theorem dX5_init_170 : decode cX5_init 170 = .ok (.putfield 74, 3) := by decide +kernel
theorem dX5_init_173 : decode cX5_init 173 = .ok (.return_, 1) := by decide +kernel
theorem dX5_changed_0 : decode cX5_changed 0 = .ok (.aload_n 0, 1) := by decide +kernel
theorem dX5_changed_1 : decode cX5_changed 1 = .ok (.iconst (-1), 1) := by decide +kernel
theorem dX5_changed_2 : decode cX5_changed 2 = .ok (.putfield 29, 3) := by decide +kernel
theorem dX5_changed_5 : decode cX5_changed 5 = .ok (.aload_n 0, 1) := by decide +kernel
theorem dX5_changed_6 : decode cX5_changed 6 = .ok (.iconst 0, 1) := by decide +kernel
theorem dX5_changed_7 : decode cX5_changed 7 = .ok (.putfield 80, 3) := by decide +kernel
theorem dX5_changed_10 : decode cX5_changed 10 = .ok (.return_, 1) := by decide +kernel
theorem dX5_input_0 : decode cX5_input 0 = .ok (.aload_n 0, 1) := by decide +kernel
theorem dX5_input_1 : decode cX5_input 1 = .ok (.getfield 84, 3) := by decide +kernel
theorem dX5_input_4 : decode cX5_input 4 = .ok (.iconst 4, 1) := by decide +kernel
theorem dX5_input_5 : decode cX5_input 5 = .ok (.if_icmp .eq 25, 3) := by decide +kernel
theorem dX5_input_8 : decode cX5_input 8 = .ok (.iload_n 1, 1) := by decide +kernel
theorem dX5_input_9 : decode cX5_input 9 = .ok (.iconst 1, 1) := by decide +kernel
theorem dX5_input_10 : decode cX5_input 10 = .ok (.if_icmp .lt 20, 3) := by decide +kernel
theorem dX5_input_13 : decode cX5_input 13 = .ok (.iload_n 1, 1) := by decide +kernel
theorem dX5_input_14 : decode cX5_input 14 = .ok (.bipush 12, 2) := by decide +kernel
theorem dX5_input_16 : decode cX5_input 16 = .ok (.if_icmp .gt 14, 3) := by decide +kernel
theorem dX5_input_19 : decode cX5_input 19 = .ok (.aload_n 0, 1) := by decide +kernel
theorem dX5_input_20 : decode cX5_input 20 = .ok (.getfield 87, 3) := by decide +kernel
theorem dX5_input_23 : decode cX5_input 23 = .ok (.iload_n 1, 1) := by decide +kernel
theorem dX5_input_24 : decode cX5_input 24 = .ok (.iadd, 1) := by decide +kernel
theorem dX5_input_25 : decode cX5_input 25 = .ok (.bipush 12, 2) := by decide +kernel
theorem dX5_input_27 : decode cX5_input 27 = .ok (.if_icmp .le 5, 3) := by decide +kernel
theorem dX5_input_30 : decode cX5_input 30 = .ok (.iconst (-1), 1) := by decide +kernel
theorem dX5_input_31 : decode cX5_input 31 = .ok (.ireturn, 1) := by decide +kernel
theorem dX5_input_32 : decode cX5_input 32 = .ok (.aload_n 0, 1) := by decide +kernel
theorem dX5_input_33 : decode cX5_input 33 = .ok (.getfield 7, 3) := by decide +kernel
theorem dX5_input_36 : decode cX5_input 36 = .ok (.aload_n 0, 1) := by decide +kernel
theorem dX5_input_37 : decode cX5_input 37 = .ok (.getfield 84, 3) := by decide +kernel
theorem dX5_input_40 : decode cX5_input 40 = .ok (.iload_n 1, 1) := by decide +kernel
theorem dX5_input_41 : decode cX5_input 41 = .ok (.iastore, 1) := by decide +kernel
theorem dX5_input_42 : decode cX5_input 42 = .ok (.aload_n 0, 1) := by decide +kernel
theorem dX5_input_43 : decode cX5_input 43 = .ok (.getfield 13, 3) := by decide +kernel
theorem dX5_input_46 : decode cX5_input 46 = .ok (.aload_n 0, 1) := by decide +kernel
theorem dX5_input_47 : decode cX5_input 47 = .ok (.getfield 84, 3) := by decide +kernel
theorem dX5_input_50 : decode cX5_input 50 = .ok (.iload_n 2, 1) := by decide +kernel
theorem dX5_input_51 : decode cX5_input 51 = .ok (.bastore, 1) := by decide +kernel
theorem dX5_input_52 : decode cX5_input 52 = .ok (.aload_n 0, 1) := by decide +kernel
theorem dX5_input_53 : decode cX5_input 53 = .ok (.dup, 1) := by decide +kernel
theorem dX5_input_54 : decode cX5_input 54 = .ok (.getfield 84, 3) := by decide +kernel
theorem dX5_input_57 : decode cX5_input 57 = .ok (.iconst 1, 1) := by decide +kernel
theorem dX5_input_58 : decode cX5_input 58 = .ok (.iadd, 1) := by decide +kernel
theorem dX5_input_59 : decode cX5_input 59 = .ok (.putfield 84, 3) := by decide +kernel
theorem dX5_input_62 : decode cX5_input 62 = .ok (.aload_n 0, 1) := by decide +kernel
theorem dX5_input_63 : decode cX5_input 63 = .ok (.dup, 1) := by decide +kernel
theorem dX5_input_64 : decode cX5_input 64 = .ok (.getfield 87, 3) := by decide +kernel
theorem dX5_input_67 : decode cX5_input 67 = .ok (.iload_n 1, 1) := by decide +kernel
theorem dX5_input_68 : decode cX5_input 68 = .ok (.iadd, 1) := by decide +kernel
theorem dX5_input_69 : decode cX5_input 69 = .ok (.putfield 87, 3) := by decide +kernel
theorem dX5_input_72 : decode cX5_input 72 = .ok (.aload_n 0, 1) := by decide +kernel
theorem dX5_input_73 : decode cX5_input 73 = .ok (.invokevirtual 90, 3) := by decide +kernel
theorem dX5_input_76 : decode cX5_input 76 = .ok (.aload_n 0, 1) := by decide +kernel
theorem dX5_input_77 : decode cX5_input 77 = .ok (.getfield 84, 3) := by decide +kernel
theorem dX5_input_80 : decode cX5_input 80 = .ok (.iconst 1, 1) := by decide +kernel
theorem dX5_input_81 : decode cX5_input 81 = .ok (.isub, 1) := by decide +kernel
theorem dX5_input_82 : decode cX5_input 82 = .ok (.ireturn, 1) := by decide +kernel
theorem dX5_isRegister_0 : decode cX5_isRegister 0 = .ok (.iload_n 0, 1) := by decide +kernel
theorem dX5_isRegister_1 : decode cX5_isRegister 1 = .ok (.ifCond .lt 13, 3) := by decide +kernel
theorem dX5_isRegister_4 : decode cX5_isRegister 4 = .ok (.iload_n 0, 1) := by decide +kernel
theorem dX5_isRegister_5 : decode cX5_isRegister 5 = .ok (.bipush 16, 2) := by decide +kernel
theorem dX5_isRegister_7 : decode cX5_isRegister 7 = .ok (.if_icmp .ge 7, 3) := by decide +kernel
theorem dX5_isRegister_10 : decode cX5_isRegister 10 = .ok (.iconst 1, 1) := by decide +kernel
theorem dX5_isRegister_11 : decode cX5_isRegister 11 = .ok (.goto 4, 3) := by decide +kernel
theorem dX5_isRegister_14 : decode cX5_isRegister 14 = .ok (.iconst 0, 1) := by decide +kernel
theorem dX5_isRegister_15 : decode cX5_isRegister 15 = .ok (.ireturn, 1) := by decide +kernel
theorem dX5_isTarget_0 : decode cX5_isTarget 0 = .ok (.iload_n 1, 1) := by decide +kernel
theorem dX5_isTarget_1 : decode cX5_isTarget 1 = .ok (.aload_n 0, 1) := by decide +kernel
theorem dX5_isTarget_2 : decode cX5_isTarget 2 = .ok (.getfield 93, 3) := by decide +kernel
theorem dX5_isTarget_5 : decode cX5_isTarget 5 = .ok (.if_icmp .le 13, 3) := by decide +kernel
theorem dX5_isTarget_8 : decode cX5_isTarget 8 = .ok (.iload_n 1, 1) := by decide +kernel
theorem dX5_isTarget_9 : decode cX5_isTarget 9 = .ok (.bipush 60, 2) := by decide +kernel
theorem dX5_isTarget_11 : decode cX5_isTarget 11 = .ok (.if_icmp .gt 7, 3) := by decide +kernel
theorem dX5_isTarget_14 : decode cX5_isTarget 14 = .ok (.iconst 1, 1) := by decide +kernel
theorem dX5_isTarget_15 : decode cX5_isTarget 15 = .ok (.goto 4, 3) := by decide +kernel
theorem dX5_isTarget_18 : decode cX5_isTarget 18 = .ok (.iconst 0, 1) := by decide +kernel
theorem dX5_isTarget_19 : decode cX5_isTarget 19 = .ok (.ireturn, 1) := by decide +kernel
theorem dX5_isGood_0 : decode cX5_isGood 0 = .ok (.iload_n 1, 1) := by decide +kernel
theorem dX5_isGood_1 : decode cX5_isGood 1 = .ok (.ifCond .lt 9, 3) := by decide +kernel
theorem dX5_isGood_4 : decode cX5_isGood 4 = .ok (.iload_n 1, 1) := by decide +kernel
theorem dX5_isGood_5 : decode cX5_isGood 5 = .ok (.bipush 31, 2) := by decide +kernel
theorem dX5_isGood_7 : decode cX5_isGood 7 = .ok (.if_icmp .le 5, 3) := by decide +kernel
theorem dX5_isGood_10 : decode cX5_isGood 10 = .ok (.iconst 0, 1) := by decide +kernel
theorem dX5_isGood_11 : decode cX5_isGood 11 = .ok (.ireturn, 1) := by decide +kernel
theorem dX5_isGood_12 : decode cX5_isGood 12 = .ok (.iload_n 1, 1) := by decide +kernel
theorem dX5_isGood_13 : decode cX5_isGood 13 = .ok (.ifCond .ne 8, 3) := by decide +kernel
theorem dX5_isGood_16 : decode cX5_isGood 16 = .ok (.iload_n 2, 1) := by decide +kernel
theorem dX5_isGood_17 : decode cX5_isGood 17 = .ok (.invokestatic 96, 3) := by decide +kernel
theorem dX5_isGood_20 : decode cX5_isGood 20 = .ok (.ireturn, 1) := by decide +kernel
theorem dX5_isGood_21 : decode cX5_isGood 21 = .ok (.iload_n 1, 1) := by decide +kernel
theorem dX5_isGood_22 : decode cX5_isGood 22 = .ok (.iconst 1, 1) := by decide +kernel
theorem dX5_isGood_23 : decode cX5_isGood 23 = .ok (.if_icmp .ne 28, 3) := by decide +kernel
theorem dX5_isGood_26 : decode cX5_isGood 26 = .ok (.iload_n 2, 1) := by decide +kernel
theorem dX5_isGood_27 : decode cX5_isGood 27 = .ok (.invokestatic 96, 3) := by decide +kernel
theorem dX5_isGood_30 : decode cX5_isGood 30 = .ok (.ifCond .eq 19, 3) := by decide +kernel
theorem dX5_isGood_33 : decode cX5_isGood 33 = .ok (.iload_n 3, 1) := by decide +kernel
theorem dX5_isGood_34 : decode cX5_isGood 34 = .ok (.ifCond .lt 15, 3) := by decide +kernel
theorem dX5_isGood_37 : decode cX5_isGood 37 = .ok (.iload_n 3, 1) := by decide +kernel
theorem dX5_isGood_38 : decode cX5_isGood 38 = .ok (.aload_n 0, 1) := by decide +kernel
theorem dX5_isGood_39 : decode cX5_isGood 39 = .ok (.getfield 84, 3) := by decide +kernel
theorem dX5_isGood_42 : decode cX5_isGood 42 = .ok (.if_icmp .ge 7, 3) := by decide +kernel
theorem dX5_isGood_45 : decode cX5_isGood 45 = .ok (.iconst 1, 1) := by decide +kernel
theorem dX5_isGood_46 : decode cX5_isGood 46 = .ok (.goto 4, 3) := by decide +kernel
theorem dX5_isGood_49 : decode cX5_isGood 49 = .ok (.iconst 0, 1) := by decide +kernel
theorem dX5_isGood_50 : decode cX5_isGood 50 = .ok (.ireturn, 1) := by decide +kernel
theorem dX5_isGood_51 : decode cX5_isGood 51 = .ok (.iload_n 1, 1) := by decide +kernel
theorem dX5_isGood_52 : decode cX5_isGood 52 = .ok (.iconst 3, 1) := by decide +kernel
theorem dX5_isGood_53 : decode cX5_isGood 53 = .ok (.if_icmp .lt 9, 3) := by decide +kernel
theorem dX5_isGood_56 : decode cX5_isGood 56 = .ok (.iload_n 1, 1) := by decide +kernel
theorem dX5_isGood_57 : decode cX5_isGood 57 = .ok (.bipush 21, 2) := by decide +kernel
theorem dX5_isGood_59 : decode cX5_isGood 59 = .ok (.if_icmp .le 9, 3) := by decide +kernel
theorem dX5_isGood_62 : decode cX5_isGood 62 = .ok (.iload_n 1, 1) := by decide +kernel
theorem dX5_isGood_63 : decode cX5_isGood 63 = .ok (.bipush 24, 2) := by decide +kernel
theorem dX5_isGood_65 : decode cX5_isGood 65 = .ok (.if_icmp .ne 31, 3) := by decide +kernel
theorem dX5_isGood_68 : decode cX5_isGood 68 = .ok (.iload_n 2, 1) := by decide +kernel
theorem dX5_isGood_69 : decode cX5_isGood 69 = .ok (.invokestatic 96, 3) := by decide +kernel
theorem dX5_isGood_72 : decode cX5_isGood 72 = .ok (.ifCond .eq 22, 3) := by decide +kernel
theorem dX5_isGood_75 : decode cX5_isGood 75 = .ok (.iload_n 3, 1) := by decide +kernel
theorem dX5_isGood_76 : decode cX5_isGood 76 = .ok (.invokestatic 96, 3) := by decide +kernel
theorem dX5_isGood_79 : decode cX5_isGood 79 = .ok (.ifCond .eq 15, 3) := by decide +kernel
theorem dX5_isGood_82 : decode cX5_isGood 82 = .ok (.iload 4, 2) := by decide +kernel
theorem dX5_isGood_84 : decode cX5_isGood 84 = .ok (.invokestatic 96, 3) := by decide +kernel
theorem dX5_isGood_87 : decode cX5_isGood 87 = .ok (.ifCond .eq 7, 3) := by decide +kernel
theorem dX5_isGood_90 : decode cX5_isGood 90 = .ok (.iconst 1, 1) := by decide +kernel
theorem dX5_isGood_91 : decode cX5_isGood 91 = .ok (.goto 4, 3) := by decide +kernel
theorem dX5_isGood_94 : decode cX5_isGood 94 = .ok (.iconst 0, 1) := by decide +kernel
theorem dX5_isGood_95 : decode cX5_isGood 95 = .ok (.ireturn, 1) := by decide +kernel
theorem dX5_isGood_96 : decode cX5_isGood 96 = .ok (.iload_n 1, 1) := by decide +kernel
theorem dX5_isGood_97 : decode cX5_isGood 97 = .ok (.bipush 26, 2) := by decide +kernel
theorem dX5_isGood_99 : decode cX5_isGood 99 = .ok (.if_icmp .gt 23, 3) := by decide +kernel
theorem dX5_isGood_102 : decode cX5_isGood 102 = .ok (.iload_n 2, 1) := by decide +kernel
theorem dX5_isGood_103 : decode cX5_isGood 103 = .ok (.invokestatic 96, 3) := by decide +kernel
theorem dX5_isGood_106 : decode cX5_isGood 106 = .ok (.ifCond .eq 14, 3) := by decide +kernel
theorem dX5_isGood_109 : decode cX5_isGood 109 = .ok (.iload_n 3, 1) := by decide +kernel
theorem dX5_isGood_110 : decode cX5_isGood 110 = .ok (.invokestatic 96, 3) := by decide +kernel
theorem dX5_isGood_113 : decode cX5_isGood 113 = .ok (.ifCond .eq 7, 3) := by decide +kernel
theorem dX5_isGood_116 : decode cX5_isGood 116 = .ok (.iconst 1, 1) := by decide +kernel
theorem dX5_isGood_117 : decode cX5_isGood 117 = .ok (.goto 4, 3) := by decide +kernel
theorem dX5_isGood_120 : decode cX5_isGood 120 = .ok (.iconst 0, 1) := by decide +kernel
theorem dX5_isGood_121 : decode cX5_isGood 121 = .ok (.ireturn, 1) := by decide +kernel
theorem dX5_isGood_122 : decode cX5_isGood 122 = .ok (.iload_n 1, 1) := by decide +kernel
theorem dX5_isGood_123 : decode cX5_isGood 123 = .ok (.bipush 27, 2) := by decide +kernel
theorem dX5_isGood_125 : decode cX5_isGood 125 = .ok (.if_icmp .ne 24, 3) := by decide +kernel
theorem dX5_isGood_128 : decode cX5_isGood 128 = .ok (.iload_n 2, 1) := by decide +kernel
theorem dX5_isGood_129 : decode cX5_isGood 129 = .ok (.invokestatic 96, 3) := by decide +kernel
theorem dX5_isGood_132 : decode cX5_isGood 132 = .ok (.ifCond .eq 15, 3) := by decide +kernel
theorem dX5_isGood_135 : decode cX5_isGood 135 = .ok (.aload_n 0, 1) := by decide +kernel
theorem dX5_isGood_136 : decode cX5_isGood 136 = .ok (.iload_n 3, 1) := by decide +kernel
theorem dX5_isGood_137 : decode cX5_isGood 137 = .ok (.invokevirtual 100, 3) := by decide +kernel
theorem dX5_isGood_140 : decode cX5_isGood 140 = .ok (.ifCond .eq 7, 3) := by decide +kernel
theorem dX5_isGood_143 : decode cX5_isGood 143 = .ok (.iconst 1, 1) := by decide +kernel
theorem dX5_isGood_144 : decode cX5_isGood 144 = .ok (.goto 4, 3) := by decide +kernel
theorem dX5_isGood_147 : decode cX5_isGood 147 = .ok (.iconst 0, 1) := by decide +kernel
theorem dX5_isGood_148 : decode cX5_isGood 148 = .ok (.ireturn, 1) := by decide +kernel
theorem dX5_isGood_149 : decode cX5_isGood 149 = .ok (.iload_n 1, 1) := by decide +kernel
theorem dX5_isGood_150 : decode cX5_isGood 150 = .ok (.bipush 28, 2) := by decide +kernel
theorem dX5_isGood_152 : decode cX5_isGood 152 = .ok (.if_icmp .ne 9, 3) := by decide +kernel
theorem dX5_isGood_155 : decode cX5_isGood 155 = .ok (.aload_n 0, 1) := by decide +kernel
theorem dX5_isGood_156 : decode cX5_isGood 156 = .ok (.iload_n 2, 1) := by decide +kernel
theorem dX5_isGood_157 : decode cX5_isGood 157 = .ok (.invokevirtual 100, 3) := by decide +kernel
theorem dX5_isGood_160 : decode cX5_isGood 160 = .ok (.ireturn, 1) := by decide +kernel
theorem dX5_isGood_161 : decode cX5_isGood 161 = .ok (.iload_n 1, 1) := by decide +kernel
theorem dX5_isGood_162 : decode cX5_isGood 162 = .ok (.bipush 30, 2) := by decide +kernel
theorem dX5_isGood_164 : decode cX5_isGood 164 = .ok (.if_icmp .ne 22, 3) := by decide +kernel
theorem dX5_isGood_167 : decode cX5_isGood 167 = .ok (.iload_n 2, 1) := by decide +kernel
theorem dX5_isGood_168 : decode cX5_isGood 168 = .ok (.ifCond .lt 14, 3) := by decide +kernel
theorem dX5_isGood_171 : decode cX5_isGood 171 = .ok (.iload_n 2, 1) := by decide +kernel
theorem dX5_isGood_172 : decode cX5_isGood 172 = .ok (.sipush 255, 3) := by decide +kernel
theorem dX5_isGood_175 : decode cX5_isGood 175 = .ok (.if_icmp .gt 7, 3) := by decide +kernel
theorem dX5_isGood_178 : decode cX5_isGood 178 = .ok (.iconst 1, 1) := by decide +kernel
theorem dX5_isGood_179 : decode cX5_isGood 179 = .ok (.goto 11, 3) := by decide +kernel
theorem dX5_isGood_182 : decode cX5_isGood 182 = .ok (.iconst 0, 1) := by decide +kernel
theorem dX5_isGood_183 : decode cX5_isGood 183 = .ok (.goto 7, 3) := by decide +kernel
theorem dX5_isGood_186 : decode cX5_isGood 186 = .ok (.iload_n 2, 1) := by decide +kernel
theorem dX5_isGood_187 : decode cX5_isGood 187 = .ok (.invokestatic 96, 3) := by decide +kernel
theorem dX5_isGood_190 : decode cX5_isGood 190 = .ok (.ireturn, 1) := by decide +kernel
theorem dX5_isDivision_0 : decode cX5_isDivision 0 = .ok (.iload_n 0, 1) := by decide +kernel
theorem dX5_isDivision_1 : decode cX5_isDivision 1 = .ok (.bipush 12, 2) := by decide +kernel
theorem dX5_isDivision_3 : decode cX5_isDivision 3 = .ok (.if_icmp .lt 13, 3) := by decide +kernel
theorem dX5_isDivision_6 : decode cX5_isDivision 6 = .ok (.iload_n 0, 1) := by decide +kernel
theorem dX5_isDivision_7 : decode cX5_isDivision 7 = .ok (.bipush 15, 2) := by decide +kernel
theorem dX5_isDivision_9 : decode cX5_isDivision 9 = .ok (.if_icmp .gt 7, 3) := by decide +kernel
theorem dX5_isDivision_12 : decode cX5_isDivision 12 = .ok (.iconst 1, 1) := by decide +kernel
theorem dX5_isDivision_13 : decode cX5_isDivision 13 = .ok (.goto 4, 3) := by decide +kernel
theorem dX5_isDivision_16 : decode cX5_isDivision 16 = .ok (.iconst 0, 1) := by decide +kernel
theorem dX5_isDivision_17 : decode cX5_isDivision 17 = .ok (.ireturn, 1) := by decide +kernel
theorem dX5_tell_0 : decode cX5_tell 0 = .ok (.aload_n 0, 1) := by decide +kernel
theorem dX5_tell_1 : decode cX5_tell 1 = .ok (.iload_n 1, 1) := by decide +kernel
theorem dX5_tell_2 : decode cX5_tell 2 = .ok (.iload_n 2, 1) := by decide +kernel
theorem dX5_tell_3 : decode cX5_tell 3 = .ok (.iload_n 3, 1) := by decide +kernel
theorem dX5_tell_4 : decode cX5_tell 4 = .ok (.iload 4, 2) := by decide +kernel
theorem dX5_tell_6 : decode cX5_tell 6 = .ok (.invokevirtual 103, 3) := by decide +kernel
theorem dX5_tell_9 : decode cX5_tell 9 = .ok (.ifCond .eq 42, 3) := by decide +kernel
theorem dX5_tell_12 : decode cX5_tell 12 = .ok (.aload_n 0, 1) := by decide +kernel
theorem dX5_tell_13 : decode cX5_tell 13 = .ok (.getfield 93, 3) := by decide +kernel
theorem dX5_tell_16 : decode cX5_tell 16 = .ok (.bipush 60, 2) := by decide +kernel
theorem dX5_tell_18 : decode cX5_tell 18 = .ok (.if_icmp .eq 33, 3) := by decide +kernel
theorem dX5_tell_21 : decode cX5_tell 21 = .ok (.iload_n 1, 1) := by decide +kernel
theorem dX5_tell_22 : decode cX5_tell 22 = .ok (.iconst 5, 1) := by decide +kernel
theorem dX5_tell_23 : decode cX5_tell 23 = .ok (.if_icmp .ne 12, 3) := by decide +kernel
theorem dX5_tell_26 : decode cX5_tell 26 = .ok (.aload_n 0, 1) := by decide +kernel
theorem dX5_tell_27 : decode cX5_tell 27 = .ok (.getfield 107, 3) := by decide +kernel
theorem dX5_tell_30 : decode cX5_tell 30 = .ok (.bipush 6, 2) := by decide +kernel
theorem dX5_tell_32 : decode cX5_tell 32 = .ok (.if_icmp .eq 19, 3) := by decide +kernel
theorem dX5_tell_35 : decode cX5_tell 35 = .ok (.iload_n 1, 1) := by decide +kernel
theorem dX5_tell_36 : decode cX5_tell 36 = .ok (.invokestatic 110, 3) := by decide +kernel
theorem dX5_tell_39 : decode cX5_tell 39 = .ok (.ifCond .eq 14, 3) := by decide +kernel
theorem dX5_tell_42 : decode cX5_tell 42 = .ok (.aload_n 0, 1) := by decide +kernel
theorem dX5_tell_43 : decode cX5_tell 43 = .ok (.getfield 113, 3) := by decide +kernel
theorem dX5_tell_46 : decode cX5_tell 46 = .ok (.bipush 6, 2) := by decide +kernel
theorem dX5_tell_48 : decode cX5_tell 48 = .ok (.if_icmp .ne 5, 3) := by decide +kernel
theorem dX5_tell_51 : decode cX5_tell 51 = .ok (.iconst (-1), 1) := by decide +kernel
theorem dX5_tell_52 : decode cX5_tell 52 = .ok (.ireturn, 1) := by decide +kernel
theorem dX5_tell_53 : decode cX5_tell 53 = .ok (.aload_n 0, 1) := by decide +kernel
theorem dX5_tell_54 : decode cX5_tell 54 = .ok (.getfield 17, 3) := by decide +kernel
theorem dX5_tell_57 : decode cX5_tell 57 = .ok (.aload_n 0, 1) := by decide +kernel
theorem dX5_tell_58 : decode cX5_tell 58 = .ok (.getfield 93, 3) := by decide +kernel
theorem dX5_tell_61 : decode cX5_tell 61 = .ok (.iload_n 1, 1) := by decide +kernel
theorem dX5_tell_62 : decode cX5_tell 62 = .ok (.iastore, 1) := by decide +kernel
theorem dX5_tell_63 : decode cX5_tell 63 = .ok (.aload_n 0, 1) := by decide +kernel
theorem dX5_tell_64 : decode cX5_tell 64 = .ok (.getfield 20, 3) := by decide +kernel
theorem dX5_tell_67 : decode cX5_tell 67 = .ok (.aload_n 0, 1) := by decide +kernel
theorem dX5_tell_68 : decode cX5_tell 68 = .ok (.getfield 93, 3) := by decide +kernel
theorem dX5_tell_71 : decode cX5_tell 71 = .ok (.iload_n 2, 1) := by decide +kernel
theorem dX5_tell_72 : decode cX5_tell 72 = .ok (.iastore, 1) := by decide +kernel
theorem dX5_tell_73 : decode cX5_tell 73 = .ok (.aload_n 0, 1) := by decide +kernel
theorem dX5_tell_74 : decode cX5_tell 74 = .ok (.getfield 23, 3) := by decide +kernel
theorem dX5_tell_77 : decode cX5_tell 77 = .ok (.aload_n 0, 1) := by decide +kernel
theorem dX5_tell_78 : decode cX5_tell 78 = .ok (.getfield 93, 3) := by decide +kernel
theorem dX5_tell_81 : decode cX5_tell 81 = .ok (.iload_n 3, 1) := by decide +kernel
theorem dX5_tell_82 : decode cX5_tell 82 = .ok (.iastore, 1) := by decide +kernel
theorem dX5_tell_83 : decode cX5_tell 83 = .ok (.aload_n 0, 1) := by decide +kernel
theorem dX5_tell_84 : decode cX5_tell 84 = .ok (.getfield 26, 3) := by decide +kernel
theorem dX5_tell_87 : decode cX5_tell 87 = .ok (.aload_n 0, 1) := by decide +kernel
theorem dX5_tell_88 : decode cX5_tell 88 = .ok (.getfield 93, 3) := by decide +kernel
theorem dX5_tell_91 : decode cX5_tell 91 = .ok (.iload 4, 2) := by decide +kernel
theorem dX5_tell_93 : decode cX5_tell 93 = .ok (.iastore, 1) := by decide +kernel
theorem dX5_tell_94 : decode cX5_tell 94 = .ok (.aload_n 0, 1) := by decide +kernel
theorem dX5_tell_95 : decode cX5_tell 95 = .ok (.dup, 1) := by decide +kernel
theorem dX5_tell_96 : decode cX5_tell 96 = .ok (.getfield 107, 3) := by decide +kernel
theorem dX5_tell_99 : decode cX5_tell 99 = .ok (.iload_n 1, 1) := by decide +kernel
theorem dX5_tell_100 : decode cX5_tell 100 = .ok (.iconst 5, 1) := by decide +kernel
theorem dX5_tell_101 : decode cX5_tell 101 = .ok (.if_icmp .ne 7, 3) := by decide +kernel
theorem dX5_tell_104 : decode cX5_tell 104 = .ok (.iconst 1, 1) := by decide +kernel
theorem dX5_tell_105 : decode cX5_tell 105 = .ok (.goto 4, 3) := by decide +kernel
theorem dX5_tell_108 : decode cX5_tell 108 = .ok (.iconst 0, 1) := by decide +kernel
theorem dX5_tell_109 : decode cX5_tell 109 = .ok (.iadd, 1) := by decide +kernel
theorem dX5_tell_110 : decode cX5_tell 110 = .ok (.putfield 107, 3) := by decide +kernel
theorem dX5_tell_113 : decode cX5_tell 113 = .ok (.aload_n 0, 1) := by decide +kernel
theorem dX5_tell_114 : decode cX5_tell 114 = .ok (.dup, 1) := by decide +kernel
theorem dX5_tell_115 : decode cX5_tell 115 = .ok (.getfield 113, 3) := by decide +kernel
theorem dX5_tell_118 : decode cX5_tell 118 = .ok (.iload_n 1, 1) := by decide +kernel
theorem dX5_tell_119 : decode cX5_tell 119 = .ok (.invokestatic 110, 3) := by decide +kernel
theorem dX5_tell_122 : decode cX5_tell 122 = .ok (.ifCond .eq 7, 3) := by decide +kernel
theorem dX5_tell_125 : decode cX5_tell 125 = .ok (.iconst 1, 1) := by decide +kernel
theorem dX5_tell_126 : decode cX5_tell 126 = .ok (.goto 4, 3) := by decide +kernel
theorem dX5_tell_129 : decode cX5_tell 129 = .ok (.iconst 0, 1) := by decide +kernel
theorem dX5_tell_130 : decode cX5_tell 130 = .ok (.iadd, 1) := by decide +kernel
theorem dX5_tell_131 : decode cX5_tell 131 = .ok (.putfield 113, 3) := by decide +kernel
theorem dX5_tell_134 : decode cX5_tell 134 = .ok (.aload_n 0, 1) := by decide +kernel
theorem dX5_tell_135 : decode cX5_tell 135 = .ok (.dup, 1) := by decide +kernel
theorem dX5_tell_136 : decode cX5_tell 136 = .ok (.getfield 93, 3) := by decide +kernel
theorem dX5_tell_139 : decode cX5_tell 139 = .ok (.iconst 1, 1) := by decide +kernel
theorem dX5_tell_140 : decode cX5_tell 140 = .ok (.iadd, 1) := by decide +kernel
theorem dX5_tell_141 : decode cX5_tell 141 = .ok (.putfield 93, 3) := by decide +kernel
theorem dX5_tell_144 : decode cX5_tell 144 = .ok (.aload_n 0, 1) := by decide +kernel
theorem dX5_tell_145 : decode cX5_tell 145 = .ok (.invokevirtual 90, 3) := by decide +kernel
theorem dX5_tell_148 : decode cX5_tell 148 = .ok (.aload_n 0, 1) := by decide +kernel
theorem dX5_tell_149 : decode cX5_tell 149 = .ok (.getfield 93, 3) := by decide +kernel
theorem dX5_tell_152 : decode cX5_tell 152 = .ok (.iconst 1, 1) := by decide +kernel
theorem dX5_tell_153 : decode cX5_tell 153 = .ok (.isub, 1) := by decide +kernel
theorem dX5_tell_154 : decode cX5_tell 154 = .ok (.ireturn, 1) := by decide +kernel
theorem dX5_clear_0 : decode cX5_clear 0 = .ok (.aload_n 0, 1) := by decide +kernel
theorem dX5_clear_1 : decode cX5_clear 1 = .ok (.getfield 93, 3) := by decide +kernel
theorem dX5_clear_4 : decode cX5_clear 4 = .ok (.istore_n 1, 1) := by decide +kernel
theorem dX5_clear_5 : decode cX5_clear 5 = .ok (.aload_n 0, 1) := by decide +kernel
theorem dX5_clear_6 : decode cX5_clear 6 = .ok (.iconst 0, 1) := by decide +kernel
theorem dX5_clear_7 : decode cX5_clear 7 = .ok (.putfield 84, 3) := by decide +kernel
theorem dX5_clear_10 : decode cX5_clear 10 = .ok (.aload_n 0, 1) := by decide +kernel
theorem dX5_clear_11 : decode cX5_clear 11 = .ok (.iconst 0, 1) := by decide +kernel
theorem dX5_clear_12 : decode cX5_clear 12 = .ok (.putfield 87, 3) := by decide +kernel
theorem dX5_clear_15 : decode cX5_clear 15 = .ok (.aload_n 0, 1) := by decide +kernel
theorem dX5_clear_16 : decode cX5_clear 16 = .ok (.iconst 0, 1) := by decide +kernel
theorem dX5_clear_17 : decode cX5_clear 17 = .ok (.putfield 93, 3) := by decide +kernel
theorem dX5_clear_20 : decode cX5_clear 20 = .ok (.aload_n 0, 1) := by decide +kernel
theorem dX5_clear_21 : decode cX5_clear 21 = .ok (.iconst 0, 1) := by decide +kernel
theorem dX5_clear_22 : decode cX5_clear 22 = .ok (.putfield 107, 3) := by decide +kernel
theorem dX5_clear_25 : decode cX5_clear 25 = .ok (.aload_n 0, 1) := by decide +kernel
theorem dX5_clear_26 : decode cX5_clear 26 = .ok (.iconst 0, 1) := by decide +kernel
theorem dX5_clear_27 : decode cX5_clear 27 = .ok (.putfield 113, 3) := by decide +kernel
theorem dX5_clear_30 : decode cX5_clear 30 = .ok (.aload_n 0, 1) := by decide +kernel
theorem dX5_clear_31 : decode cX5_clear 31 = .ok (.iconst 0, 1) := by decide +kernel
theorem dX5_clear_32 : decode cX5_clear 32 = .ok (.putfield 116, 3) := by decide +kernel
theorem dX5_clear_35 : decode cX5_clear 35 = .ok (.aload_n 0, 1) := by decide +kernel
theorem dX5_clear_36 : decode cX5_clear 36 = .ok (.invokevirtual 90, 3) := by decide +kernel
theorem dX5_clear_39 : decode cX5_clear 39 = .ok (.iload_n 1, 1) := by decide +kernel
theorem dX5_clear_40 : decode cX5_clear 40 = .ok (.ireturn, 1) := by decide +kernel
theorem dX5_words_0 : decode cX5_words 0 = .ok (.iconst 1, 1) := by decide +kernel
theorem dX5_words_1 : decode cX5_words 1 = .ok (.aload_n 0, 1) := by decide +kernel
theorem dX5_words_2 : decode cX5_words 2 = .ok (.getfield 87, 3) := by decide +kernel
theorem dX5_words_5 : decode cX5_words 5 = .ok (.ishl, 1) := by decide +kernel
theorem dX5_words_6 : decode cX5_words 6 = .ok (.ireturn, 1) := by decide +kernel
theorem dX5_inputOf_0 : decode cX5_inputOf 0 = .ok (.iconst 0, 1) := by decide +kernel
theorem dX5_inputOf_1 : decode cX5_inputOf 1 = .ok (.istore_n 3, 1) := by decide +kernel
theorem dX5_inputOf_2 : decode cX5_inputOf 2 = .ok (.iload_n 2, 1) := by decide +kernel
theorem dX5_inputOf_3 : decode cX5_inputOf 3 = .ok (.iconst 1, 1) := by decide +kernel
theorem dX5_inputOf_4 : decode cX5_inputOf 4 = .ok (.iadd, 1) := by decide +kernel
theorem dX5_inputOf_5 : decode cX5_inputOf 5 = .ok (.istore 4, 2) := by decide +kernel
theorem dX5_inputOf_7 : decode cX5_inputOf 7 = .ok (.iload 4, 2) := by decide +kernel
theorem dX5_inputOf_9 : decode cX5_inputOf 9 = .ok (.aload_n 0, 1) := by decide +kernel
theorem dX5_inputOf_10 : decode cX5_inputOf 10 = .ok (.getfield 84, 3) := by decide +kernel
theorem dX5_inputOf_13 : decode cX5_inputOf 13 = .ok (.if_icmp .ge 19, 3) := by decide +kernel
theorem dX5_inputOf_16 : decode cX5_inputOf 16 = .ok (.iload_n 3, 1) := by decide +kernel
theorem dX5_inputOf_17 : decode cX5_inputOf 17 = .ok (.aload_n 0, 1) := by decide +kernel
theorem dX5_inputOf_18 : decode cX5_inputOf 18 = .ok (.getfield 7, 3) := by decide +kernel
theorem dX5_inputOf_21 : decode cX5_inputOf 21 = .ok (.iload 4, 2) := by decide +kernel
theorem dX5_inputOf_23 : decode cX5_inputOf 23 = .ok (.iaload, 1) := by decide +kernel
theorem dX5_inputOf_24 : decode cX5_inputOf 24 = .ok (.iadd, 1) := by decide +kernel
theorem dX5_inputOf_25 : decode cX5_inputOf 25 = .ok (.istore_n 3, 1) := by decide +kernel
theorem dX5_inputOf_26 : decode cX5_inputOf 26 = .ok (.iinc 4 1, 3) := by decide +kernel
theorem dX5_inputOf_29 : decode cX5_inputOf 29 = .ok (.goto (-22), 3) := by decide +kernel
theorem dX5_inputOf_32 : decode cX5_inputOf 32 = .ok (.iload_n 1, 1) := by decide +kernel
theorem dX5_inputOf_33 : decode cX5_inputOf 33 = .ok (.iload_n 3, 1) := by decide +kernel
theorem dX5_inputOf_34 : decode cX5_inputOf 34 = .ok (.ishr, 1) := by decide +kernel
theorem dX5_inputOf_35 : decode cX5_inputOf 35 = .ok (.iconst 1, 1) := by decide +kernel
theorem dX5_inputOf_36 : decode cX5_inputOf 36 = .ok (.aload_n 0, 1) := by decide +kernel
theorem dX5_inputOf_37 : decode cX5_inputOf 37 = .ok (.getfield 7, 3) := by decide +kernel
theorem dX5_inputOf_40 : decode cX5_inputOf 40 = .ok (.iload_n 2, 1) := by decide +kernel
theorem dX5_inputOf_41 : decode cX5_inputOf 41 = .ok (.iaload, 1) := by decide +kernel
theorem dX5_inputOf_42 : decode cX5_inputOf 42 = .ok (.ishl, 1) := by decide +kernel
theorem dX5_inputOf_43 : decode cX5_inputOf 43 = .ok (.iconst 1, 1) := by decide +kernel
theorem dX5_inputOf_44 : decode cX5_inputOf 44 = .ok (.isub, 1) := by decide +kernel
theorem dX5_inputOf_45 : decode cX5_inputOf 45 = .ok (.iand, 1) := by decide +kernel
theorem dX5_inputOf_46 : decode cX5_inputOf 46 = .ok (.istore 4, 2) := by decide +kernel
theorem dX5_inputOf_48 : decode cX5_inputOf 48 = .ok (.aload_n 0, 1) := by decide +kernel
theorem dX5_inputOf_49 : decode cX5_inputOf 49 = .ok (.getfield 13, 3) := by decide +kernel
theorem dX5_inputOf_52 : decode cX5_inputOf 52 = .ok (.iload_n 2, 1) := by decide +kernel
theorem dX5_inputOf_53 : decode cX5_inputOf 53 = .ok (.baload, 1) := by decide +kernel
theorem dX5_inputOf_54 : decode cX5_inputOf 54 = .ok (.ifCond .eq 32, 3) := by decide +kernel
theorem dX5_inputOf_57 : decode cX5_inputOf 57 = .ok (.iload 4, 2) := by decide +kernel
theorem dX5_inputOf_59 : decode cX5_inputOf 59 = .ok (.aload_n 0, 1) := by decide +kernel
theorem dX5_inputOf_60 : decode cX5_inputOf 60 = .ok (.getfield 7, 3) := by decide +kernel
theorem dX5_inputOf_63 : decode cX5_inputOf 63 = .ok (.iload_n 2, 1) := by decide +kernel
theorem dX5_inputOf_64 : decode cX5_inputOf 64 = .ok (.iaload, 1) := by decide +kernel
theorem dX5_inputOf_65 : decode cX5_inputOf 65 = .ok (.iconst 1, 1) := by decide +kernel
theorem dX5_inputOf_66 : decode cX5_inputOf 66 = .ok (.isub, 1) := by decide +kernel
theorem dX5_inputOf_67 : decode cX5_inputOf 67 = .ok (.ishr, 1) := by decide +kernel
theorem dX5_inputOf_68 : decode cX5_inputOf 68 = .ok (.iconst 1, 1) := by decide +kernel
theorem dX5_inputOf_69 : decode cX5_inputOf 69 = .ok (.if_icmp .ne 17, 3) := by decide +kernel
theorem dX5_inputOf_72 : decode cX5_inputOf 72 = .ok (.iload 4, 2) := by decide +kernel
theorem dX5_inputOf_74 : decode cX5_inputOf 74 = .ok (.iconst 1, 1) := by decide +kernel
theorem dX5_inputOf_75 : decode cX5_inputOf 75 = .ok (.aload_n 0, 1) := by decide +kernel
theorem dX5_inputOf_76 : decode cX5_inputOf 76 = .ok (.getfield 7, 3) := by decide +kernel
theorem dX5_inputOf_79 : decode cX5_inputOf 79 = .ok (.iload_n 2, 1) := by decide +kernel
theorem dX5_inputOf_80 : decode cX5_inputOf 80 = .ok (.iaload, 1) := by decide +kernel
theorem dX5_inputOf_81 : decode cX5_inputOf 81 = .ok (.ishl, 1) := by decide +kernel
theorem dX5_inputOf_82 : decode cX5_inputOf 82 = .ok (.isub, 1) := by decide +kernel
theorem dX5_inputOf_83 : decode cX5_inputOf 83 = .ok (.goto 5, 3) := by decide +kernel
theorem dX5_inputOf_86 : decode cX5_inputOf 86 = .ok (.iload 4, 2) := by decide +kernel
theorem dX5_inputOf_88 : decode cX5_inputOf 88 = .ok (.ireturn, 1) := by decide +kernel
theorem dX5_isBelow_0 : decode cX5_isBelow 0 = .ok (.iload_n 0, 1) := by decide +kernel
theorem dX5_isBelow_1 : decode cX5_isBelow 1 = .ok (.ldc 121, 2) := by decide +kernel
theorem dX5_isBelow_3 : decode cX5_isBelow 3 = .ok (.iadd, 1) := by decide +kernel
theorem dX5_isBelow_4 : decode cX5_isBelow 4 = .ok (.iload_n 1, 1) := by decide +kernel
theorem dX5_isBelow_5 : decode cX5_isBelow 5 = .ok (.ldc 121, 2) := by decide +kernel
theorem dX5_isBelow_7 : decode cX5_isBelow 7 = .ok (.iadd, 1) := by decide +kernel
theorem dX5_isBelow_8 : decode cX5_isBelow 8 = .ok (.if_icmp .ge 7, 3) := by decide +kernel
theorem dX5_isBelow_11 : decode cX5_isBelow 11 = .ok (.iconst 1, 1) := by decide +kernel
theorem dX5_isBelow_12 : decode cX5_isBelow 12 = .ok (.goto 4, 3) := by decide +kernel
theorem dX5_isBelow_15 : decode cX5_isBelow 15 = .ok (.iconst 0, 1) := by decide +kernel
theorem dX5_isBelow_16 : decode cX5_isBelow 16 = .ok (.ireturn, 1) := by decide +kernel
theorem dX5_plain_0 : decode cX5_plain 0 = .ok (.iload_n 0, 1) := by decide +kernel
theorem dX5_plain_1 : decode cX5_plain 1 = .ok (.i2l, 1) := by decide +kernel
theorem dX5_plain_2 : decode cX5_plain 2 = .ok (.ldc2_w 122, 3) := by decide +kernel
theorem dX5_plain_5 : decode cX5_plain 5 = .ok (.land, 1) := by decide +kernel
theorem dX5_plain_6 : decode cX5_plain 6 = .ok (.lreturn, 1) := by decide +kernel
theorem dX5_truth_0 : decode cX5_truth 0 = .ok (.iload_n 0, 1) := by decide +kernel
theorem dX5_truth_1 : decode cX5_truth 1 = .ok (.ifCond .eq 7, 3) := by decide +kernel
theorem dX5_truth_4 : decode cX5_truth 4 = .ok (.iconst 1, 1) := by decide +kernel
theorem dX5_truth_5 : decode cX5_truth 5 = .ok (.goto 4, 3) := by decide +kernel
theorem dX5_truth_8 : decode cX5_truth 8 = .ok (.iconst 0, 1) := by decide +kernel
theorem dX5_truth_9 : decode cX5_truth 9 = .ok (.ireturn, 1) := by decide +kernel
theorem dX5_reckoned_0 : decode cX5_reckoned 0 = .ok (.iload_n 0, 1) := by decide +kernel
theorem dX5_reckoned_1 : decode cX5_reckoned 1 = .ok (.tableswitch 281 3 20 #[87, 91, 95, 99, 103, 107, 111, 118, 125, 132, 151, 170, 192, 213, 227, 241, 250, 267], 87) := by decide +kernel
theorem dX5_reckoned_88 : decode cX5_reckoned 88 = .ok (.iload_n 1, 1) := by decide +kernel
theorem dX5_reckoned_89 : decode cX5_reckoned 89 = .ok (.iload_n 2, 1) := by decide +kernel
theorem dX5_reckoned_90 : decode cX5_reckoned 90 = .ok (.iadd, 1) := by decide +kernel
theorem dX5_reckoned_91 : decode cX5_reckoned 91 = .ok (.ireturn, 1) := by decide +kernel
theorem dX5_reckoned_92 : decode cX5_reckoned 92 = .ok (.iload_n 1, 1) := by decide +kernel
theorem dX5_reckoned_93 : decode cX5_reckoned 93 = .ok (.iload_n 2, 1) := by decide +kernel
theorem dX5_reckoned_94 : decode cX5_reckoned 94 = .ok (.isub, 1) := by decide +kernel
theorem dX5_reckoned_95 : decode cX5_reckoned 95 = .ok (.ireturn, 1) := by decide +kernel
theorem dX5_reckoned_96 : decode cX5_reckoned 96 = .ok (.iload_n 1, 1) := by decide +kernel
theorem dX5_reckoned_97 : decode cX5_reckoned 97 = .ok (.iload_n 2, 1) := by decide +kernel
theorem dX5_reckoned_98 : decode cX5_reckoned 98 = .ok (.imul, 1) := by decide +kernel
theorem dX5_reckoned_99 : decode cX5_reckoned 99 = .ok (.ireturn, 1) := by decide +kernel
theorem dX5_reckoned_100 : decode cX5_reckoned 100 = .ok (.iload_n 1, 1) := by decide +kernel
theorem dX5_reckoned_101 : decode cX5_reckoned 101 = .ok (.iload_n 2, 1) := by decide +kernel
theorem dX5_reckoned_102 : decode cX5_reckoned 102 = .ok (.iand, 1) := by decide +kernel
theorem dX5_reckoned_103 : decode cX5_reckoned 103 = .ok (.ireturn, 1) := by decide +kernel
theorem dX5_reckoned_104 : decode cX5_reckoned 104 = .ok (.iload_n 1, 1) := by decide +kernel
theorem dX5_reckoned_105 : decode cX5_reckoned 105 = .ok (.iload_n 2, 1) := by decide +kernel
theorem dX5_reckoned_106 : decode cX5_reckoned 106 = .ok (.ior, 1) := by decide +kernel
theorem dX5_reckoned_107 : decode cX5_reckoned 107 = .ok (.ireturn, 1) := by decide +kernel
theorem dX5_reckoned_108 : decode cX5_reckoned 108 = .ok (.iload_n 1, 1) := by decide +kernel
theorem dX5_reckoned_109 : decode cX5_reckoned 109 = .ok (.iload_n 2, 1) := by decide +kernel
theorem dX5_reckoned_110 : decode cX5_reckoned 110 = .ok (.ixor, 1) := by decide +kernel
theorem dX5_reckoned_111 : decode cX5_reckoned 111 = .ok (.ireturn, 1) := by decide +kernel
theorem dX5_reckoned_112 : decode cX5_reckoned 112 = .ok (.iload_n 1, 1) := by decide +kernel
theorem dX5_reckoned_113 : decode cX5_reckoned 113 = .ok (.iload_n 2, 1) := by decide +kernel
theorem dX5_reckoned_114 : decode cX5_reckoned 114 = .ok (.bipush 31, 2) := by decide +kernel
theorem dX5_reckoned_116 : decode cX5_reckoned 116 = .ok (.iand, 1) := by decide +kernel
theorem dX5_reckoned_117 : decode cX5_reckoned 117 = .ok (.ishl, 1) := by decide +kernel
theorem dX5_reckoned_118 : decode cX5_reckoned 118 = .ok (.ireturn, 1) := by decide +kernel
theorem dX5_reckoned_119 : decode cX5_reckoned 119 = .ok (.iload_n 1, 1) := by decide +kernel
theorem dX5_reckoned_120 : decode cX5_reckoned 120 = .ok (.iload_n 2, 1) := by decide +kernel
theorem dX5_reckoned_121 : decode cX5_reckoned 121 = .ok (.bipush 31, 2) := by decide +kernel
theorem dX5_reckoned_123 : decode cX5_reckoned 123 = .ok (.iand, 1) := by decide +kernel
theorem dX5_reckoned_124 : decode cX5_reckoned 124 = .ok (.iushr, 1) := by decide +kernel
theorem dX5_reckoned_125 : decode cX5_reckoned 125 = .ok (.ireturn, 1) := by decide +kernel
theorem dX5_reckoned_126 : decode cX5_reckoned 126 = .ok (.iload_n 1, 1) := by decide +kernel
theorem dX5_reckoned_127 : decode cX5_reckoned 127 = .ok (.iload_n 2, 1) := by decide +kernel
theorem dX5_reckoned_128 : decode cX5_reckoned 128 = .ok (.bipush 31, 2) := by decide +kernel
theorem dX5_reckoned_130 : decode cX5_reckoned 130 = .ok (.iand, 1) := by decide +kernel
theorem dX5_reckoned_131 : decode cX5_reckoned 131 = .ok (.ishr, 1) := by decide +kernel
theorem dX5_reckoned_132 : decode cX5_reckoned 132 = .ok (.ireturn, 1) := by decide +kernel
theorem dX5_reckoned_133 : decode cX5_reckoned 133 = .ok (.iload_n 2, 1) := by decide +kernel
theorem dX5_reckoned_134 : decode cX5_reckoned 134 = .ok (.ifCond .ne 7, 3) := by decide +kernel
theorem dX5_reckoned_137 : decode cX5_reckoned 137 = .ok (.iconst (-1), 1) := by decide +kernel
theorem dX5_reckoned_138 : decode cX5_reckoned 138 = .ok (.goto 13, 3) := by decide +kernel
theorem dX5_reckoned_141 : decode cX5_reckoned 141 = .ok (.iload_n 1, 1) := by decide +kernel
theorem dX5_reckoned_142 : decode cX5_reckoned 142 = .ok (.invokestatic 124, 3) := by decide +kernel
theorem dX5_reckoned_145 : decode cX5_reckoned 145 = .ok (.iload_n 2, 1) := by decide +kernel
theorem dX5_reckoned_146 : decode cX5_reckoned 146 = .ok (.invokestatic 124, 3) := by decide +kernel
theorem dX5_reckoned_149 : decode cX5_reckoned 149 = .ok (.ldiv, 1) := by decide +kernel
theorem dX5_reckoned_150 : decode cX5_reckoned 150 = .ok (.l2i, 1) := by decide +kernel
theorem dX5_reckoned_151 : decode cX5_reckoned 151 = .ok (.ireturn, 1) := by decide +kernel
theorem dX5_reckoned_152 : decode cX5_reckoned 152 = .ok (.iload_n 2, 1) := by decide +kernel
theorem dX5_reckoned_153 : decode cX5_reckoned 153 = .ok (.ifCond .ne 7, 3) := by decide +kernel
theorem dX5_reckoned_156 : decode cX5_reckoned 156 = .ok (.iload_n 1, 1) := by decide +kernel
theorem dX5_reckoned_157 : decode cX5_reckoned 157 = .ok (.goto 13, 3) := by decide +kernel
theorem dX5_reckoned_160 : decode cX5_reckoned 160 = .ok (.iload_n 1, 1) := by decide +kernel
theorem dX5_reckoned_161 : decode cX5_reckoned 161 = .ok (.invokestatic 124, 3) := by decide +kernel
theorem dX5_reckoned_164 : decode cX5_reckoned 164 = .ok (.iload_n 2, 1) := by decide +kernel
theorem dX5_reckoned_165 : decode cX5_reckoned 165 = .ok (.invokestatic 124, 3) := by decide +kernel
theorem dX5_reckoned_168 : decode cX5_reckoned 168 = .ok (.lrem, 1) := by decide +kernel
theorem dX5_reckoned_169 : decode cX5_reckoned 169 = .ok (.l2i, 1) := by decide +kernel
theorem dX5_reckoned_170 : decode cX5_reckoned 170 = .ok (.ireturn, 1) := by decide +kernel
theorem dX5_reckoned_171 : decode cX5_reckoned 171 = .ok (.iload_n 2, 1) := by decide +kernel
theorem dX5_reckoned_172 : decode cX5_reckoned 172 = .ok (.ifCond .ne 7, 3) := by decide +kernel
theorem dX5_reckoned_175 : decode cX5_reckoned 175 = .ok (.iconst (-1), 1) := by decide +kernel
theorem dX5_reckoned_176 : decode cX5_reckoned 176 = .ok (.goto 16, 3) := by decide +kernel
theorem dX5_reckoned_179 : decode cX5_reckoned 179 = .ok (.iload_n 2, 1) := by decide +kernel
theorem dX5_reckoned_180 : decode cX5_reckoned 180 = .ok (.iconst (-1), 1) := by decide +kernel
theorem dX5_reckoned_181 : decode cX5_reckoned 181 = .ok (.if_icmp .ne 8, 3) := by decide +kernel
theorem dX5_reckoned_184 : decode cX5_reckoned 184 = .ok (.iload_n 1, 1) := by decide +kernel
theorem dX5_reckoned_185 : decode cX5_reckoned 185 = .ok (.ineg, 1) := by decide +kernel
theorem dX5_reckoned_186 : decode cX5_reckoned 186 = .ok (.goto 6, 3) := by decide +kernel
theorem dX5_reckoned_189 : decode cX5_reckoned 189 = .ok (.iload_n 1, 1) := by decide +kernel
theorem dX5_reckoned_190 : decode cX5_reckoned 190 = .ok (.iload_n 2, 1) := by decide +kernel
theorem dX5_reckoned_191 : decode cX5_reckoned 191 = .ok (.idiv, 1) := by decide +kernel
theorem dX5_reckoned_192 : decode cX5_reckoned 192 = .ok (.ireturn, 1) := by decide +kernel
theorem dX5_reckoned_193 : decode cX5_reckoned 193 = .ok (.iload_n 2, 1) := by decide +kernel
theorem dX5_reckoned_194 : decode cX5_reckoned 194 = .ok (.ifCond .ne 7, 3) := by decide +kernel
theorem dX5_reckoned_197 : decode cX5_reckoned 197 = .ok (.iload_n 1, 1) := by decide +kernel
theorem dX5_reckoned_198 : decode cX5_reckoned 198 = .ok (.goto 15, 3) := by decide +kernel
theorem dX5_reckoned_201 : decode cX5_reckoned 201 = .ok (.iload_n 2, 1) := by decide +kernel
theorem dX5_reckoned_202 : decode cX5_reckoned 202 = .ok (.iconst (-1), 1) := by decide +kernel
theorem dX5_reckoned_203 : decode cX5_reckoned 203 = .ok (.if_icmp .ne 7, 3) := by decide +kernel
theorem dX5_reckoned_206 : decode cX5_reckoned 206 = .ok (.iconst 0, 1) := by decide +kernel
theorem dX5_reckoned_207 : decode cX5_reckoned 207 = .ok (.goto 6, 3) := by decide +kernel
theorem dX5_reckoned_210 : decode cX5_reckoned 210 = .ok (.iload_n 1, 1) := by decide +kernel
theorem dX5_reckoned_211 : decode cX5_reckoned 211 = .ok (.iload_n 2, 1) := by decide +kernel
theorem dX5_reckoned_212 : decode cX5_reckoned 212 = .ok (.irem, 1) := by decide +kernel
theorem dX5_reckoned_213 : decode cX5_reckoned 213 = .ok (.ireturn, 1) := by decide +kernel
theorem dX5_reckoned_214 : decode cX5_reckoned 214 = .ok (.iload_n 1, 1) := by decide +kernel
theorem dX5_reckoned_215 : decode cX5_reckoned 215 = .ok (.iload_n 2, 1) := by decide +kernel
theorem dX5_reckoned_216 : decode cX5_reckoned 216 = .ok (.if_icmp .ne 7, 3) := by decide +kernel
theorem dX5_reckoned_219 : decode cX5_reckoned 219 = .ok (.iconst 1, 1) := by decide +kernel
theorem dX5_reckoned_220 : decode cX5_reckoned 220 = .ok (.goto 4, 3) := by decide +kernel
theorem dX5_reckoned_223 : decode cX5_reckoned 223 = .ok (.iconst 0, 1) := by decide +kernel
theorem dX5_reckoned_224 : decode cX5_reckoned 224 = .ok (.invokestatic 128, 3) := by decide +kernel
theorem dX5_reckoned_227 : decode cX5_reckoned 227 = .ok (.ireturn, 1) := by decide +kernel
theorem dX5_reckoned_228 : decode cX5_reckoned 228 = .ok (.iload_n 1, 1) := by decide +kernel
theorem dX5_reckoned_229 : decode cX5_reckoned 229 = .ok (.iload_n 2, 1) := by decide +kernel
theorem dX5_reckoned_230 : decode cX5_reckoned 230 = .ok (.if_icmp .eq 7, 3) := by decide +kernel
theorem dX5_reckoned_233 : decode cX5_reckoned 233 = .ok (.iconst 1, 1) := by decide +kernel
theorem dX5_reckoned_234 : decode cX5_reckoned 234 = .ok (.goto 4, 3) := by decide +kernel
theorem dX5_reckoned_237 : decode cX5_reckoned 237 = .ok (.iconst 0, 1) := by decide +kernel
theorem dX5_reckoned_238 : decode cX5_reckoned 238 = .ok (.invokestatic 128, 3) := by decide +kernel
theorem dX5_reckoned_241 : decode cX5_reckoned 241 = .ok (.ireturn, 1) := by decide +kernel
theorem dX5_reckoned_242 : decode cX5_reckoned 242 = .ok (.iload_n 1, 1) := by decide +kernel
theorem dX5_reckoned_243 : decode cX5_reckoned 243 = .ok (.iload_n 2, 1) := by decide +kernel
theorem dX5_reckoned_244 : decode cX5_reckoned 244 = .ok (.invokestatic 132, 3) := by decide +kernel
theorem dX5_reckoned_247 : decode cX5_reckoned 247 = .ok (.invokestatic 128, 3) := by decide +kernel
theorem dX5_reckoned_250 : decode cX5_reckoned 250 = .ok (.ireturn, 1) := by decide +kernel
theorem dX5_reckoned_251 : decode cX5_reckoned 251 = .ok (.iload_n 2, 1) := by decide +kernel
theorem dX5_reckoned_252 : decode cX5_reckoned 252 = .ok (.iload_n 1, 1) := by decide +kernel
theorem dX5_reckoned_253 : decode cX5_reckoned 253 = .ok (.invokestatic 132, 3) := by decide +kernel
theorem dX5_reckoned_256 : decode cX5_reckoned 256 = .ok (.ifCond .ne 7, 3) := by decide +kernel
theorem dX5_reckoned_259 : decode cX5_reckoned 259 = .ok (.iconst 1, 1) := by decide +kernel
theorem dX5_reckoned_260 : decode cX5_reckoned 260 = .ok (.goto 4, 3) := by decide +kernel
theorem dX5_reckoned_263 : decode cX5_reckoned 263 = .ok (.iconst 0, 1) := by decide +kernel
theorem dX5_reckoned_264 : decode cX5_reckoned 264 = .ok (.invokestatic 128, 3) := by decide +kernel
theorem dX5_reckoned_267 : decode cX5_reckoned 267 = .ok (.ireturn, 1) := by decide +kernel
theorem dX5_reckoned_268 : decode cX5_reckoned 268 = .ok (.iload_n 1, 1) := by decide +kernel
theorem dX5_reckoned_269 : decode cX5_reckoned 269 = .ok (.iload_n 2, 1) := by decide +kernel
theorem dX5_reckoned_270 : decode cX5_reckoned 270 = .ok (.if_icmp .ge 7, 3) := by decide +kernel
theorem dX5_reckoned_273 : decode cX5_reckoned 273 = .ok (.iconst 1, 1) := by decide +kernel
theorem dX5_reckoned_274 : decode cX5_reckoned 274 = .ok (.goto 4, 3) := by decide +kernel
theorem dX5_reckoned_277 : decode cX5_reckoned 277 = .ok (.iconst 0, 1) := by decide +kernel
theorem dX5_reckoned_278 : decode cX5_reckoned 278 = .ok (.invokestatic 128, 3) := by decide +kernel
theorem dX5_reckoned_281 : decode cX5_reckoned 281 = .ok (.ireturn, 1) := by decide +kernel
theorem dX5_reckoned_282 : decode cX5_reckoned 282 = .ok (.iload_n 1, 1) := by decide +kernel
theorem dX5_reckoned_283 : decode cX5_reckoned 283 = .ok (.iload_n 2, 1) := by decide +kernel
theorem dX5_reckoned_284 : decode cX5_reckoned 284 = .ok (.if_icmp .gt 7, 3) := by decide +kernel
theorem dX5_reckoned_287 : decode cX5_reckoned 287 = .ok (.iconst 1, 1) := by decide +kernel
theorem dX5_reckoned_288 : decode cX5_reckoned 288 = .ok (.goto 4, 3) := by decide +kernel
theorem dX5_reckoned_291 : decode cX5_reckoned 291 = .ok (.iconst 0, 1) := by decide +kernel
theorem dX5_reckoned_292 : decode cX5_reckoned 292 = .ok (.invokestatic 128, 3) := by decide +kernel
theorem dX5_reckoned_295 : decode cX5_reckoned 295 = .ok (.ireturn, 1) := by decide +kernel
theorem dX5_ends_0 : decode cX5_ends 0 = .ok (.aload_n 0, 1) := by decide +kernel
theorem dX5_ends_1 : decode cX5_ends 1 = .ok (.iload_n 1, 1) := by decide +kernel
theorem dX5_ends_2 : decode cX5_ends 2 = .ok (.putfield 136, 3) := by decide +kernel
theorem dX5_ends_5 : decode cX5_ends 5 = .ok (.aload_n 0, 1) := by decide +kernel
theorem dX5_ends_6 : decode cX5_ends 6 = .ok (.iload_n 2, 1) := by decide +kernel
theorem dX5_ends_7 : decode cX5_ends 7 = .ok (.putfield 139, 3) := by decide +kernel
theorem dX5_ends_10 : decode cX5_ends 10 = .ok (.aload_n 0, 1) := by decide +kernel
theorem dX5_ends_11 : decode cX5_ends 11 = .ok (.iload_n 3, 1) := by decide +kernel
theorem dX5_ends_12 : decode cX5_ends 12 = .ok (.putfield 142, 3) := by decide +kernel
theorem dX5_ends_15 : decode cX5_ends 15 = .ok (.return_, 1) := by decide +kernel
theorem dX5_go_0 : decode cX5_go 0 = .ok (.iconst 0, 1) := by decide +kernel
theorem dX5_go_1 : decode cX5_go 1 = .ok (.istore 4, 2) := by decide +kernel
theorem dX5_go_3 : decode cX5_go 3 = .ok (.iload 4, 2) := by decide +kernel
theorem dX5_go_5 : decode cX5_go 5 = .ok (.bipush 16, 2) := by decide +kernel
theorem dX5_go_7 : decode cX5_go 7 = .ok (.if_icmp .ge 17, 3) := by decide +kernel
theorem dX5_go_10 : decode cX5_go 10 = .ok (.aload_n 0, 1) := by decide +kernel
theorem dX5_go_11 : decode cX5_go 11 = .ok (.getfield 62, 3) := by decide +kernel
theorem dX5_go_14 : decode cX5_go 14 = .ok (.iload 4, 2) := by decide +kernel
theorem dX5_go_16 : decode cX5_go 16 = .ok (.iconst 0, 1) := by decide +kernel
theorem dX5_go_17 : decode cX5_go 17 = .ok (.iastore, 1) := by decide +kernel
theorem dX5_go_18 : decode cX5_go 18 = .ok (.iinc 4 1, 3) := by decide +kernel
theorem dX5_go_21 : decode cX5_go 21 = .ok (.goto (-18), 3) := by decide +kernel
theorem dX5_go_24 : decode cX5_go 24 = .ok (.iconst 0, 1) := by decide +kernel
theorem dX5_go_25 : decode cX5_go 25 = .ok (.istore 4, 2) := by decide +kernel
theorem dX5_go_27 : decode cX5_go 27 = .ok (.iload 4, 2) := by decide +kernel
theorem dX5_go_29 : decode cX5_go 29 = .ok (.bipush 8, 2) := by decide +kernel
theorem dX5_go_31 : decode cX5_go 31 = .ok (.if_icmp .ge 17, 3) := by decide +kernel
theorem dX5_go_34 : decode cX5_go 34 = .ok (.aload_n 0, 1) := by decide +kernel
theorem dX5_go_35 : decode cX5_go 35 = .ok (.getfield 65, 3) := by decide +kernel
theorem dX5_go_38 : decode cX5_go 38 = .ok (.iload 4, 2) := by decide +kernel
theorem dX5_go_40 : decode cX5_go 40 = .ok (.iconst 0, 1) := by decide +kernel
theorem dX5_go_41 : decode cX5_go 41 = .ok (.iastore, 1) := by decide +kernel
theorem dX5_go_42 : decode cX5_go 42 = .ok (.iinc 4 1, 3) := by decide +kernel
theorem dX5_go_45 : decode cX5_go 45 = .ok (.goto (-18), 3) := by decide +kernel
theorem dX5_go_48 : decode cX5_go 48 = .ok (.aload_n 0, 1) := by decide +kernel
theorem dX5_go_49 : decode cX5_go 49 = .ok (.iconst 0, 1) := by decide +kernel
theorem dX5_go_50 : decode cX5_go 50 = .ok (.putfield 145, 3) := by decide +kernel
theorem dX5_go_53 : decode cX5_go 53 = .ok (.aload_n 0, 1) := by decide +kernel
theorem dX5_go_54 : decode cX5_go 54 = .ok (.iconst 0, 1) := by decide +kernel
theorem dX5_go_55 : decode cX5_go 55 = .ok (.putfield 148, 3) := by decide +kernel
theorem dX5_go_58 : decode cX5_go 58 = .ok (.iconst 0, 1) := by decide +kernel
theorem dX5_go_59 : decode cX5_go 59 = .ok (.istore 4, 2) := by decide +kernel
theorem dX5_go_61 : decode cX5_go 61 = .ok (.iload 4, 2) := by decide +kernel
theorem dX5_go_63 : decode cX5_go 63 = .ok (.aload_n 0, 1) := by decide +kernel
theorem dX5_go_64 : decode cX5_go 64 = .ok (.getfield 93, 3) := by decide +kernel
theorem dX5_go_67 : decode cX5_go 67 = .ok (.if_icmp .ge 701, 3) := by decide +kernel
theorem dX5_go_70 : decode cX5_go 70 = .ok (.iload_n 3, 1) := by decide +kernel
theorem dX5_go_71 : decode cX5_go 71 = .ok (.ifCond .eq 11, 3) := by decide +kernel
theorem dX5_go_74 : decode cX5_go 74 = .ok (.aload_n 0, 1) := by decide +kernel
theorem dX5_go_75 : decode cX5_go 75 = .ok (.getfield 59, 3) := by decide +kernel
theorem dX5_go_78 : decode cX5_go 78 = .ok (.iload 4, 2) := by decide +kernel
theorem dX5_go_80 : decode cX5_go 80 = .ok (.iconst 1, 1) := by decide +kernel
theorem dX5_go_81 : decode cX5_go 81 = .ok (.bastore, 1) := by decide +kernel
theorem dX5_go_82 : decode cX5_go 82 = .ok (.aload_n 0, 1) := by decide +kernel
theorem dX5_go_83 : decode cX5_go 83 = .ok (.dup, 1) := by decide +kernel
theorem dX5_go_84 : decode cX5_go 84 = .ok (.getfield 145, 3) := by decide +kernel
theorem dX5_go_87 : decode cX5_go 87 = .ok (.iconst 1, 1) := by decide +kernel
theorem dX5_go_88 : decode cX5_go 88 = .ok (.iadd, 1) := by decide +kernel
theorem dX5_go_89 : decode cX5_go 89 = .ok (.putfield 145, 3) := by decide +kernel
theorem dX5_go_92 : decode cX5_go 92 = .ok (.aload_n 0, 1) := by decide +kernel
theorem dX5_go_93 : decode cX5_go 93 = .ok (.getfield 17, 3) := by decide +kernel
theorem dX5_go_96 : decode cX5_go 96 = .ok (.iload 4, 2) := by decide +kernel
theorem dX5_go_98 : decode cX5_go 98 = .ok (.iaload, 1) := by decide +kernel
theorem dX5_go_99 : decode cX5_go 99 = .ok (.istore 5, 2) := by decide +kernel
theorem dX5_go_101 : decode cX5_go 101 = .ok (.aload_n 0, 1) := by decide +kernel
theorem dX5_go_102 : decode cX5_go 102 = .ok (.getfield 20, 3) := by decide +kernel
theorem dX5_go_105 : decode cX5_go 105 = .ok (.iload 4, 2) := by decide +kernel
theorem dX5_go_107 : decode cX5_go 107 = .ok (.iaload, 1) := by decide +kernel
theorem dX5_go_108 : decode cX5_go 108 = .ok (.istore 6, 2) := by decide +kernel
theorem dX5_go_110 : decode cX5_go 110 = .ok (.aload_n 0, 1) := by decide +kernel
theorem dX5_go_111 : decode cX5_go 111 = .ok (.getfield 23, 3) := by decide +kernel
theorem dX5_go_114 : decode cX5_go 114 = .ok (.iload 4, 2) := by decide +kernel
theorem dX5_go_116 : decode cX5_go 116 = .ok (.iaload, 1) := by decide +kernel
theorem dX5_go_117 : decode cX5_go 117 = .ok (.istore 7, 2) := by decide +kernel
theorem dX5_go_119 : decode cX5_go 119 = .ok (.aload_n 0, 1) := by decide +kernel
theorem dX5_go_120 : decode cX5_go 120 = .ok (.getfield 26, 3) := by decide +kernel
theorem dX5_go_123 : decode cX5_go 123 = .ok (.iload 4, 2) := by decide +kernel
theorem dX5_go_125 : decode cX5_go 125 = .ok (.iaload, 1) := by decide +kernel
theorem dX5_go_126 : decode cX5_go 126 = .ok (.istore 8, 2) := by decide +kernel
theorem dX5_go_128 : decode cX5_go 128 = .ok (.iload 4, 2) := by decide +kernel
theorem dX5_go_130 : decode cX5_go 130 = .ok (.iconst 1, 1) := by decide +kernel
theorem dX5_go_131 : decode cX5_go 131 = .ok (.iadd, 1) := by decide +kernel
theorem dX5_go_132 : decode cX5_go 132 = .ok (.istore 9, 2) := by decide +kernel
theorem dX5_go_134 : decode cX5_go 134 = .ok (.iload 5, 2) := by decide +kernel
theorem dX5_go_136 : decode cX5_go 136 = .ok (.invokestatic 110, 3) := by decide +kernel
theorem dX5_go_139 : decode cX5_go 139 = .ok (.ifCond .ne 31, 3) := by decide +kernel
theorem dX5_go_142 : decode cX5_go 142 = .ok (.iload 5, 2) := by decide +kernel
theorem dX5_go_144 : decode cX5_go 144 = .ok (.bipush 25, 2) := by decide +kernel
theorem dX5_go_146 : decode cX5_go 146 = .ok (.if_icmp .eq 24, 3) := by decide +kernel
theorem dX5_go_149 : decode cX5_go 149 = .ok (.iload 5, 2) := by decide +kernel
theorem dX5_go_151 : decode cX5_go 151 = .ok (.bipush 26, 2) := by decide +kernel
theorem dX5_go_153 : decode cX5_go 153 = .ok (.if_icmp .eq 17, 3) := by decide +kernel
theorem dX5_go_156 : decode cX5_go 156 = .ok (.iload 5, 2) := by decide +kernel
theorem dX5_go_158 : decode cX5_go 158 = .ok (.bipush 27, 2) := by decide +kernel
theorem dX5_go_160 : decode cX5_go 160 = .ok (.if_icmp .eq 10, 3) := by decide +kernel
theorem dX5_go_163 : decode cX5_go 163 = .ok (.iload 5, 2) := by decide +kernel
theorem dX5_go_165 : decode cX5_go 165 = .ok (.bipush 29, 2) := by decide +kernel
theorem dX5_go_167 : decode cX5_go 167 = .ok (.if_icmp .ne 7, 3) := by decide +kernel
theorem dX5_go_170 : decode cX5_go 170 = .ok (.iconst 1, 1) := by decide +kernel
theorem dX5_go_171 : decode cX5_go 171 = .ok (.goto 4, 3) := by decide +kernel
theorem dX5_go_174 : decode cX5_go 174 = .ok (.iconst 0, 1) := by decide +kernel
theorem dX5_go_175 : decode cX5_go 175 = .ok (.istore 10, 2) := by decide +kernel
theorem dX5_go_177 : decode cX5_go 177 = .ok (.iconst 0, 1) := by decide +kernel
theorem dX5_go_178 : decode cX5_go 178 = .ok (.istore 11, 2) := by decide +kernel
theorem dX5_go_180 : decode cX5_go 180 = .ok (.iload 10, 2) := by decide +kernel
theorem dX5_go_182 : decode cX5_go 182 = .ok (.ifCond .eq 145, 3) := by decide +kernel
theorem dX5_go_185 : decode cX5_go 185 = .ok (.iload 5, 2) := by decide +kernel
theorem dX5_go_187 : decode cX5_go 187 = .ok (.invokestatic 110, 3) := by decide +kernel
theorem dX5_go_190 : decode cX5_go 190 = .ok (.ifCond .eq 13, 3) := by decide +kernel
theorem dX5_go_193 : decode cX5_go 193 = .ok (.aload_n 0, 1) := by decide +kernel
theorem dX5_go_194 : decode cX5_go 194 = .ok (.getfield 62, 3) := by decide +kernel
theorem dX5_go_197 : decode cX5_go 197 = .ok (.iload 8, 2) := by decide +kernel
theorem dX5_go_199 : decode cX5_go 199 = .ok (.iaload, 1) := by decide +kernel
theorem dX5_go_200 : decode cX5_go 200 = .ok (.goto 27, 3) := by decide +kernel
theorem dX5_go_203 : decode cX5_go 203 = .ok (.iload 5, 2) := by decide +kernel
theorem dX5_go_205 : decode cX5_go 205 = .ok (.bipush 25, 2) := by decide +kernel
theorem dX5_go_207 : decode cX5_go 207 = .ok (.if_icmp .ne 13, 3) := by decide +kernel
theorem dX5_go_210 : decode cX5_go 210 = .ok (.aload_n 0, 1) := by decide +kernel
theorem dX5_go_211 : decode cX5_go 211 = .ok (.getfield 62, 3) := by decide +kernel
theorem dX5_go_214 : decode cX5_go 214 = .ok (.iload 7, 2) := by decide +kernel
theorem dX5_go_216 : decode cX5_go 216 = .ok (.iaload, 1) := by decide +kernel
theorem dX5_go_217 : decode cX5_go 217 = .ok (.goto 10, 3) := by decide +kernel
theorem dX5_go_220 : decode cX5_go 220 = .ok (.aload_n 0, 1) := by decide +kernel
theorem dX5_go_221 : decode cX5_go 221 = .ok (.getfield 62, 3) := by decide +kernel
theorem dX5_go_224 : decode cX5_go 224 = .ok (.iload 6, 2) := by decide +kernel
theorem dX5_go_226 : decode cX5_go 226 = .ok (.iaload, 1) := by decide +kernel
theorem dX5_go_227 : decode cX5_go 227 = .ok (.istore 12, 2) := by decide +kernel
theorem dX5_go_229 : decode cX5_go 229 = .ok (.iload 5, 2) := by decide +kernel
theorem dX5_go_231 : decode cX5_go 231 = .ok (.bipush 25, 2) := by decide +kernel
theorem dX5_go_233 : decode cX5_go 233 = .ok (.if_icmp .eq 10, 3) := by decide +kernel
theorem dX5_go_236 : decode cX5_go 236 = .ok (.iload 5, 2) := by decide +kernel
theorem dX5_go_238 : decode cX5_go 238 = .ok (.bipush 26, 2) := by decide +kernel
theorem dX5_go_240 : decode cX5_go 240 = .ok (.if_icmp .ne 23, 3) := by decide +kernel
theorem dX5_go_243 : decode cX5_go 243 = .ok (.iload 12, 2) := by decide +kernel
theorem dX5_go_245 : decode cX5_go 245 = .ok (.ifCond .lt 14, 3) := by decide +kernel
theorem dX5_go_248 : decode cX5_go 248 = .ok (.iload 12, 2) := by decide +kernel
theorem dX5_go_250 : decode cX5_go 250 = .ok (.bipush 8, 2) := by decide +kernel
theorem dX5_go_252 : decode cX5_go 252 = .ok (.if_icmp .ge 7, 3) := by decide +kernel
theorem dX5_go_255 : decode cX5_go 255 = .ok (.iconst 1, 1) := by decide +kernel
theorem dX5_go_256 : decode cX5_go 256 = .ok (.goto 17, 3) := by decide +kernel
theorem dX5_go_259 : decode cX5_go 259 = .ok (.iconst 0, 1) := by decide +kernel
theorem dX5_go_260 : decode cX5_go 260 = .ok (.goto 13, 3) := by decide +kernel
theorem dX5_go_263 : decode cX5_go 263 = .ok (.iload 12, 2) := by decide +kernel
theorem dX5_go_265 : decode cX5_go 265 = .ok (.ifCond .eq 7, 3) := by decide +kernel
theorem dX5_go_268 : decode cX5_go 268 = .ok (.iconst 1, 1) := by decide +kernel
theorem dX5_go_269 : decode cX5_go 269 = .ok (.goto 4, 3) := by decide +kernel
theorem dX5_go_272 : decode cX5_go 272 = .ok (.iconst 0, 1) := by decide +kernel
theorem dX5_go_273 : decode cX5_go 273 = .ok (.istore 11, 2) := by decide +kernel
theorem dX5_go_275 : decode cX5_go 275 = .ok (.aload_n 2, 1) := by decide +kernel
theorem dX5_go_276 : decode cX5_go 276 = .ok (.ifnull 22, 3) := by decide +kernel
theorem dX5_go_279 : decode cX5_go 279 = .ok (.aload_n 2, 1) := by decide +kernel
theorem dX5_go_280 : decode cX5_go 280 = .ok (.aload_n 0, 1) := by decide +kernel
theorem dX5_go_281 : decode cX5_go 281 = .ok (.getfield 148, 3) := by decide +kernel
theorem dX5_go_284 : decode cX5_go 284 = .ok (.iaload, 1) := by decide +kernel
theorem dX5_go_285 : decode cX5_go 285 = .ok (.iconst 2, 1) := by decide +kernel
theorem dX5_go_286 : decode cX5_go 286 = .ok (.irem, 1) := by decide +kernel
theorem dX5_go_287 : decode cX5_go 287 = .ok (.iconst 1, 1) := by decide +kernel
theorem dX5_go_288 : decode cX5_go 288 = .ok (.if_icmp .ne 7, 3) := by decide +kernel
theorem dX5_go_291 : decode cX5_go 291 = .ok (.iconst 1, 1) := by decide +kernel
theorem dX5_go_292 : decode cX5_go 292 = .ok (.goto 4, 3) := by decide +kernel
theorem dX5_go_295 : decode cX5_go 295 = .ok (.iconst 0, 1) := by decide +kernel
theorem dX5_go_296 : decode cX5_go 296 = .ok (.istore 11, 2) := by decide +kernel
theorem dX5_go_298 : decode cX5_go 298 = .ok (.aload_n 0, 1) := by decide +kernel
theorem dX5_go_299 : decode cX5_go 299 = .ok (.getfield 68, 3) := by decide +kernel
theorem dX5_go_302 : decode cX5_go 302 = .ok (.aload_n 0, 1) := by decide +kernel
theorem dX5_go_303 : decode cX5_go 303 = .ok (.getfield 148, 3) := by decide +kernel
theorem dX5_go_306 : decode cX5_go 306 = .ok (.iconst 2, 1) := by decide +kernel
theorem dX5_go_307 : decode cX5_go 307 = .ok (.iload 4, 2) := by decide +kernel
theorem dX5_go_309 : decode cX5_go 309 = .ok (.imul, 1) := by decide +kernel
theorem dX5_go_310 : decode cX5_go 310 = .ok (.iload 11, 2) := by decide +kernel
theorem dX5_go_312 : decode cX5_go 312 = .ok (.invokestatic 128, 3) := by decide +kernel
theorem dX5_go_315 : decode cX5_go 315 = .ok (.iadd, 1) := by decide +kernel
theorem dX5_go_316 : decode cX5_go 316 = .ok (.iastore, 1) := by decide +kernel
theorem dX5_go_317 : decode cX5_go 317 = .ok (.aload_n 0, 1) := by decide +kernel
theorem dX5_go_318 : decode cX5_go 318 = .ok (.dup, 1) := by decide +kernel
theorem dX5_go_319 : decode cX5_go 319 = .ok (.getfield 148, 3) := by decide +kernel
theorem dX5_go_322 : decode cX5_go 322 = .ok (.iconst 1, 1) := by decide +kernel
theorem dX5_go_323 : decode cX5_go 323 = .ok (.iadd, 1) := by decide +kernel
theorem dX5_go_324 : decode cX5_go 324 = .ok (.putfield 148, 3) := by decide +kernel
theorem dX5_go_327 : decode cX5_go 327 = .ok (.iload 5, 2) := by decide +kernel
theorem dX5_go_329 : decode cX5_go 329 = .ok (.ifCond .ne 15, 3) := by decide +kernel
theorem dX5_go_332 : decode cX5_go 332 = .ok (.aload_n 0, 1) := by decide +kernel
theorem dX5_go_333 : decode cX5_go 333 = .ok (.getfield 62, 3) := by decide +kernel
theorem dX5_go_336 : decode cX5_go 336 = .ok (.iload 6, 2) := by decide +kernel
theorem dX5_go_338 : decode cX5_go 338 = .ok (.iload 7, 2) := by decide +kernel
theorem dX5_go_340 : decode cX5_go 340 = .ok (.iastore, 1) := by decide +kernel
theorem dX5_go_341 : decode cX5_go 341 = .ok (.goto 420, 3) := by decide +kernel
theorem dX5_go_344 : decode cX5_go 344 = .ok (.iload 5, 2) := by decide +kernel
theorem dX5_go_346 : decode cX5_go 346 = .ok (.iconst 1, 1) := by decide +kernel
theorem dX5_go_347 : decode cX5_go 347 = .ok (.if_icmp .ne 20, 3) := by decide +kernel
theorem dX5_go_350 : decode cX5_go 350 = .ok (.aload_n 0, 1) := by decide +kernel
theorem dX5_go_351 : decode cX5_go 351 = .ok (.getfield 62, 3) := by decide +kernel
theorem dX5_go_354 : decode cX5_go 354 = .ok (.iload 6, 2) := by decide +kernel
theorem dX5_go_356 : decode cX5_go 356 = .ok (.aload_n 0, 1) := by decide +kernel
theorem dX5_go_357 : decode cX5_go 357 = .ok (.iload_n 1, 1) := by decide +kernel
theorem dX5_go_358 : decode cX5_go 358 = .ok (.iload 7, 2) := by decide +kernel
theorem dX5_go_360 : decode cX5_go 360 = .ok (.invokevirtual 151, 3) := by decide +kernel
theorem dX5_go_363 : decode cX5_go 363 = .ok (.iastore, 1) := by decide +kernel
theorem dX5_go_364 : decode cX5_go 364 = .ok (.goto 397, 3) := by decide +kernel
theorem dX5_go_367 : decode cX5_go 367 = .ok (.iload 5, 2) := by decide +kernel
theorem dX5_go_369 : decode cX5_go 369 = .ok (.iconst 2, 1) := by decide +kernel
theorem dX5_go_370 : decode cX5_go 370 = .ok (.if_icmp .ne 20, 3) := by decide +kernel
theorem dX5_go_373 : decode cX5_go 373 = .ok (.aload_n 0, 1) := by decide +kernel
theorem dX5_go_374 : decode cX5_go 374 = .ok (.getfield 62, 3) := by decide +kernel
theorem dX5_go_377 : decode cX5_go 377 = .ok (.iload 6, 2) := by decide +kernel
theorem dX5_go_379 : decode cX5_go 379 = .ok (.aload_n 0, 1) := by decide +kernel
theorem dX5_go_380 : decode cX5_go 380 = .ok (.getfield 62, 3) := by decide +kernel
theorem dX5_go_383 : decode cX5_go 383 = .ok (.iload 7, 2) := by decide +kernel
theorem dX5_go_385 : decode cX5_go 385 = .ok (.iaload, 1) := by decide +kernel
theorem dX5_go_386 : decode cX5_go 386 = .ok (.iastore, 1) := by decide +kernel
theorem dX5_go_387 : decode cX5_go 387 = .ok (.goto 374, 3) := by decide +kernel
theorem dX5_go_390 : decode cX5_go 390 = .ok (.iload 5, 2) := by decide +kernel
theorem dX5_go_392 : decode cX5_go 392 = .ok (.invokestatic 110, 3) := by decide +kernel
theorem dX5_go_395 : decode cX5_go 395 = .ok (.ifCond .eq 17, 3) := by decide +kernel
theorem dX5_go_398 : decode cX5_go 398 = .ok (.iload 11, 2) := by decide +kernel
theorem dX5_go_400 : decode cX5_go 400 = .ok (.ifCond .ne 12, 3) := by decide +kernel
theorem dX5_go_403 : decode cX5_go 403 = .ok (.aload_n 0, 1) := by decide +kernel
theorem dX5_go_404 : decode cX5_go 404 = .ok (.iconst 1, 1) := by decide +kernel
theorem dX5_go_405 : decode cX5_go 405 = .ok (.iload 4, 2) := by decide +kernel
theorem dX5_go_407 : decode cX5_go 407 = .ok (.iconst 0, 1) := by decide +kernel
theorem dX5_go_408 : decode cX5_go 408 = .ok (.invokevirtual 155, 3) := by decide +kernel
theorem dX5_go_411 : decode cX5_go 411 = .ok (.return_, 1) := by decide +kernel
theorem dX5_go_412 : decode cX5_go 412 = .ok (.iload 5, 2) := by decide +kernel
theorem dX5_go_414 : decode cX5_go 414 = .ok (.bipush 21, 2) := by decide +kernel
theorem dX5_go_416 : decode cX5_go 416 = .ok (.if_icmp .gt 32, 3) := by decide +kernel
theorem dX5_go_419 : decode cX5_go 419 = .ok (.aload_n 0, 1) := by decide +kernel
theorem dX5_go_420 : decode cX5_go 420 = .ok (.getfield 62, 3) := by decide +kernel
theorem dX5_go_423 : decode cX5_go 423 = .ok (.iload 6, 2) := by decide +kernel
theorem dX5_go_425 : decode cX5_go 425 = .ok (.iload 5, 2) := by decide +kernel
theorem dX5_go_427 : decode cX5_go 427 = .ok (.aload_n 0, 1) := by decide +kernel
theorem dX5_go_428 : decode cX5_go 428 = .ok (.getfield 62, 3) := by decide +kernel
theorem dX5_go_431 : decode cX5_go 431 = .ok (.iload 7, 2) := by decide +kernel
theorem dX5_go_433 : decode cX5_go 433 = .ok (.iaload, 1) := by decide +kernel
theorem dX5_go_434 : decode cX5_go 434 = .ok (.aload_n 0, 1) := by decide +kernel
theorem dX5_go_435 : decode cX5_go 435 = .ok (.getfield 62, 3) := by decide +kernel
theorem dX5_go_438 : decode cX5_go 438 = .ok (.iload 8, 2) := by decide +kernel
theorem dX5_go_440 : decode cX5_go 440 = .ok (.iaload, 1) := by decide +kernel
theorem dX5_go_441 : decode cX5_go 441 = .ok (.invokestatic 159, 3) := by decide +kernel
theorem dX5_go_444 : decode cX5_go 444 = .ok (.iastore, 1) := by decide +kernel
theorem dX5_go_445 : decode cX5_go 445 = .ok (.goto 316, 3) := by decide +kernel
theorem dX5_go_448 : decode cX5_go 448 = .ok (.iload 5, 2) := by decide +kernel
theorem dX5_go_450 : decode cX5_go 450 = .ok (.bipush 22, 2) := by decide +kernel
theorem dX5_go_452 : decode cX5_go 452 = .ok (.if_icmp .ne 22, 3) := by decide +kernel
theorem dX5_go_455 : decode cX5_go 455 = .ok (.aload_n 0, 1) := by decide +kernel
theorem dX5_go_456 : decode cX5_go 456 = .ok (.getfield 62, 3) := by decide +kernel
theorem dX5_go_459 : decode cX5_go 459 = .ok (.iload 6, 2) := by decide +kernel
theorem dX5_go_461 : decode cX5_go 461 = .ok (.aload_n 0, 1) := by decide +kernel
theorem dX5_go_462 : decode cX5_go 462 = .ok (.getfield 62, 3) := by decide +kernel
theorem dX5_go_465 : decode cX5_go 465 = .ok (.iload 7, 2) := by decide +kernel
theorem dX5_go_467 : decode cX5_go 467 = .ok (.iaload, 1) := by decide +kernel
theorem dX5_go_468 : decode cX5_go 468 = .ok (.iconst (-1), 1) := by decide +kernel
theorem dX5_go_469 : decode cX5_go 469 = .ok (.ixor, 1) := by decide +kernel
theorem dX5_go_470 : decode cX5_go 470 = .ok (.iastore, 1) := by decide +kernel
theorem dX5_go_471 : decode cX5_go 471 = .ok (.goto 290, 3) := by decide +kernel
theorem dX5_go_474 : decode cX5_go 474 = .ok (.iload 5, 2) := by decide +kernel
theorem dX5_go_476 : decode cX5_go 476 = .ok (.bipush 23, 2) := by decide +kernel
theorem dX5_go_478 : decode cX5_go 478 = .ok (.if_icmp .ne 21, 3) := by decide +kernel
theorem dX5_go_481 : decode cX5_go 481 = .ok (.aload_n 0, 1) := by decide +kernel
theorem dX5_go_482 : decode cX5_go 482 = .ok (.getfield 62, 3) := by decide +kernel
theorem dX5_go_485 : decode cX5_go 485 = .ok (.iload 6, 2) := by decide +kernel
theorem dX5_go_487 : decode cX5_go 487 = .ok (.aload_n 0, 1) := by decide +kernel
theorem dX5_go_488 : decode cX5_go 488 = .ok (.getfield 62, 3) := by decide +kernel
theorem dX5_go_491 : decode cX5_go 491 = .ok (.iload 7, 2) := by decide +kernel
theorem dX5_go_493 : decode cX5_go 493 = .ok (.iaload, 1) := by decide +kernel
theorem dX5_go_494 : decode cX5_go 494 = .ok (.ineg, 1) := by decide +kernel
theorem dX5_go_495 : decode cX5_go 495 = .ok (.iastore, 1) := by decide +kernel
theorem dX5_go_496 : decode cX5_go 496 = .ok (.goto 265, 3) := by decide +kernel
theorem dX5_go_499 : decode cX5_go 499 = .ok (.iload 5, 2) := by decide +kernel
theorem dX5_go_501 : decode cX5_go 501 = .ok (.bipush 24, 2) := by decide +kernel
theorem dX5_go_503 : decode cX5_go 503 = .ok (.if_icmp .ne 40, 3) := by decide +kernel
theorem dX5_go_506 : decode cX5_go 506 = .ok (.aload_n 0, 1) := by decide +kernel
theorem dX5_go_507 : decode cX5_go 507 = .ok (.getfield 62, 3) := by decide +kernel
theorem dX5_go_510 : decode cX5_go 510 = .ok (.iload 6, 2) := by decide +kernel
theorem dX5_go_512 : decode cX5_go 512 = .ok (.aload_n 0, 1) := by decide +kernel
theorem dX5_go_513 : decode cX5_go 513 = .ok (.getfield 62, 3) := by decide +kernel
theorem dX5_go_516 : decode cX5_go 516 = .ok (.iload 7, 2) := by decide +kernel
theorem dX5_go_518 : decode cX5_go 518 = .ok (.iaload, 1) := by decide +kernel
theorem dX5_go_519 : decode cX5_go 519 = .ok (.ifCond .eq 13, 3) := by decide +kernel
theorem dX5_go_522 : decode cX5_go 522 = .ok (.aload_n 0, 1) := by decide +kernel
theorem dX5_go_523 : decode cX5_go 523 = .ok (.getfield 62, 3) := by decide +kernel
theorem dX5_go_526 : decode cX5_go 526 = .ok (.iload 8, 2) := by decide +kernel
theorem dX5_go_528 : decode cX5_go 528 = .ok (.iaload, 1) := by decide +kernel
theorem dX5_go_529 : decode cX5_go 529 = .ok (.goto 10, 3) := by decide +kernel
theorem dX5_go_532 : decode cX5_go 532 = .ok (.aload_n 0, 1) := by decide +kernel
theorem dX5_go_533 : decode cX5_go 533 = .ok (.getfield 62, 3) := by decide +kernel
theorem dX5_go_536 : decode cX5_go 536 = .ok (.iload 6, 2) := by decide +kernel
theorem dX5_go_538 : decode cX5_go 538 = .ok (.iaload, 1) := by decide +kernel
theorem dX5_go_539 : decode cX5_go 539 = .ok (.iastore, 1) := by decide +kernel
theorem dX5_go_540 : decode cX5_go 540 = .ok (.goto 221, 3) := by decide +kernel
theorem dX5_go_543 : decode cX5_go 543 = .ok (.iload 5, 2) := by decide +kernel
theorem dX5_go_545 : decode cX5_go 545 = .ok (.bipush 26, 2) := by decide +kernel
theorem dX5_go_547 : decode cX5_go 547 = .ok (.if_icmp .gt 117, 3) := by decide +kernel
theorem dX5_go_550 : decode cX5_go 550 = .ok (.iload 11, 2) := by decide +kernel
theorem dX5_go_552 : decode cX5_go 552 = .ok (.ifCond .ne 12, 3) := by decide +kernel
theorem dX5_go_555 : decode cX5_go 555 = .ok (.aload_n 0, 1) := by decide +kernel
theorem dX5_go_556 : decode cX5_go 556 = .ok (.iconst 2, 1) := by decide +kernel
theorem dX5_go_557 : decode cX5_go 557 = .ok (.iload 4, 2) := by decide +kernel
theorem dX5_go_559 : decode cX5_go 559 = .ok (.iconst 0, 1) := by decide +kernel
theorem dX5_go_560 : decode cX5_go 560 = .ok (.invokevirtual 155, 3) := by decide +kernel
theorem dX5_go_563 : decode cX5_go 563 = .ok (.return_, 1) := by decide +kernel
theorem dX5_go_564 : decode cX5_go 564 = .ok (.iload 5, 2) := by decide +kernel
theorem dX5_go_566 : decode cX5_go 566 = .ok (.bipush 25, 2) := by decide +kernel
theorem dX5_go_568 : decode cX5_go 568 = .ok (.if_icmp .ne 13, 3) := by decide +kernel
theorem dX5_go_571 : decode cX5_go 571 = .ok (.aload_n 0, 1) := by decide +kernel
theorem dX5_go_572 : decode cX5_go 572 = .ok (.getfield 62, 3) := by decide +kernel
theorem dX5_go_575 : decode cX5_go 575 = .ok (.iload 7, 2) := by decide +kernel
theorem dX5_go_577 : decode cX5_go 577 = .ok (.iaload, 1) := by decide +kernel
theorem dX5_go_578 : decode cX5_go 578 = .ok (.goto 10, 3) := by decide +kernel
theorem dX5_go_581 : decode cX5_go 581 = .ok (.aload_n 0, 1) := by decide +kernel
theorem dX5_go_582 : decode cX5_go 582 = .ok (.getfield 62, 3) := by decide +kernel
theorem dX5_go_585 : decode cX5_go 585 = .ok (.iload 6, 2) := by decide +kernel
theorem dX5_go_587 : decode cX5_go 587 = .ok (.iaload, 1) := by decide +kernel
theorem dX5_go_588 : decode cX5_go 588 = .ok (.istore 12, 2) := by decide +kernel
theorem dX5_go_590 : decode cX5_go 590 = .ok (.iload 12, 2) := by decide +kernel
theorem dX5_go_592 : decode cX5_go 592 = .ok (.ifCond .lt 14, 3) := by decide +kernel
theorem dX5_go_595 : decode cX5_go 595 = .ok (.iload 12, 2) := by decide +kernel
theorem dX5_go_597 : decode cX5_go 597 = .ok (.bipush 8, 2) := by decide +kernel
theorem dX5_go_599 : decode cX5_go 599 = .ok (.if_icmp .ge 7, 3) := by decide +kernel
theorem dX5_go_602 : decode cX5_go 602 = .ok (.iconst 1, 1) := by decide +kernel
theorem dX5_go_603 : decode cX5_go 603 = .ok (.goto 4, 3) := by decide +kernel
theorem dX5_go_606 : decode cX5_go 606 = .ok (.iconst 0, 1) := by decide +kernel
theorem dX5_go_607 : decode cX5_go 607 = .ok (.istore 13, 2) := by decide +kernel
theorem dX5_go_609 : decode cX5_go 609 = .ok (.iload 5, 2) := by decide +kernel
theorem dX5_go_611 : decode cX5_go 611 = .ok (.bipush 25, 2) := by decide +kernel
theorem dX5_go_613 : decode cX5_go 613 = .ok (.if_icmp .ne 29, 3) := by decide +kernel
theorem dX5_go_616 : decode cX5_go 616 = .ok (.aload_n 0, 1) := by decide +kernel
theorem dX5_go_617 : decode cX5_go 617 = .ok (.getfield 62, 3) := by decide +kernel
theorem dX5_go_620 : decode cX5_go 620 = .ok (.iload 6, 2) := by decide +kernel
theorem dX5_go_622 : decode cX5_go 622 = .ok (.iload 13, 2) := by decide +kernel
theorem dX5_go_624 : decode cX5_go 624 = .ok (.ifCond .eq 13, 3) := by decide +kernel
theorem dX5_go_627 : decode cX5_go 627 = .ok (.aload_n 0, 1) := by decide +kernel
theorem dX5_go_628 : decode cX5_go 628 = .ok (.getfield 65, 3) := by decide +kernel
theorem dX5_go_631 : decode cX5_go 631 = .ok (.iload 12, 2) := by decide +kernel
theorem dX5_go_633 : decode cX5_go 633 = .ok (.iaload, 1) := by decide +kernel
theorem dX5_go_634 : decode cX5_go 634 = .ok (.goto 4, 3) := by decide +kernel
theorem dX5_go_637 : decode cX5_go 637 = .ok (.iconst 0, 1) := by decide +kernel
theorem dX5_go_638 : decode cX5_go 638 = .ok (.iastore, 1) := by decide +kernel
theorem dX5_go_639 : decode cX5_go 639 = .ok (.goto 22, 3) := by decide +kernel
theorem dX5_go_642 : decode cX5_go 642 = .ok (.iload 13, 2) := by decide +kernel
theorem dX5_go_644 : decode cX5_go 644 = .ok (.ifCond .eq 17, 3) := by decide +kernel
theorem dX5_go_647 : decode cX5_go 647 = .ok (.aload_n 0, 1) := by decide +kernel
theorem dX5_go_648 : decode cX5_go 648 = .ok (.getfield 65, 3) := by decide +kernel
theorem dX5_go_651 : decode cX5_go 651 = .ok (.iload 12, 2) := by decide +kernel
theorem dX5_go_653 : decode cX5_go 653 = .ok (.aload_n 0, 1) := by decide +kernel
theorem dX5_go_654 : decode cX5_go 654 = .ok (.getfield 62, 3) := by decide +kernel
theorem dX5_go_657 : decode cX5_go 657 = .ok (.iload 7, 2) := by decide +kernel
