theorem dX0_init_0 : decode cX0_init 0 = .ok (.aload_n 0, 1) := by decide +kernel
theorem dX0_init_1 : decode cX0_init 1 = .ok (.invokespecial 3, 3) := by decide +kernel
theorem dX0_init_4 : decode cX0_init 4 = .ok (.aload_n 0, 1) := by decide +kernel
theorem dX0_init_5 : decode cX0_init 5 = .ok (.bipush 40, 2) := by decide +kernel
theorem dX0_init_7 : decode cX0_init 7 = .ok (.anewarray 9, 3) := by decide +kernel
theorem dX0_init_10 : decode cX0_init 10 = .ok (.putfield 11, 3) := by decide +kernel
theorem dX0_init_13 : decode cX0_init 13 = .ok (.aload_n 0, 1) := by decide +kernel
theorem dX0_init_14 : decode cX0_init 14 = .ok (.sipush 4096, 3) := by decide +kernel
theorem dX0_init_17 : decode cX0_init 17 = .ok (.newarray .long, 2) := by decide +kernel
theorem dX0_init_19 : decode cX0_init 19 = .ok (.putfield 17, 3) := by decide +kernel
theorem dX0_init_22 : decode cX0_init 22 = .ok (.aload_n 0, 1) := by decide +kernel
theorem dX0_init_23 : decode cX0_init 23 = .ok (.sipush 4096, 3) := by decide +kernel
theorem dX0_init_26 : decode cX0_init 26 = .ok (.newarray .int, 2) := by decide +kernel
theorem dX0_init_28 : decode cX0_init 28 = .ok (.putfield 21, 3) := by decide +kernel
theorem dX0_init_31 : decode cX0_init 31 = .ok (.iconst 0, 1) := by decide +kernel
theorem dX0_init_32 : decode cX0_init 32 = .ok (.istore_n 1, 1) := by decide +kernel
theorem dX0_init_33 : decode cX0_init 33 = .ok (.iload_n 1, 1) := by decide +kernel
theorem dX0_init_34 : decode cX0_init 34 = .ok (.bipush 40, 2) := by decide +kernel
theorem dX0_init_36 : decode cX0_init 36 = .ok (.if_icmp .ge 22, 3) := by decide +kernel
theorem dX0_init_39 : decode cX0_init 39 = .ok (.aload_n 0, 1) := by decide +kernel
theorem dX0_init_40 : decode cX0_init 40 = .ok (.getfield 11, 3) := by decide +kernel
theorem dX0_init_43 : decode cX0_init 43 = .ok (.iload_n 1, 1) := by decide +kernel
theorem dX0_init_44 : decode cX0_init 44 = .ok (.new 9, 3) := by decide +kernel
theorem dX0_init_47 : decode cX0_init 47 = .ok (.dup, 1) := by decide +kernel
theorem dX0_init_48 : decode cX0_init 48 = .ok (.invokespecial 25, 3) := by decide +kernel
theorem dX0_init_51 : decode cX0_init 51 = .ok (.aastore, 1) := by decide +kernel
theorem dX0_init_52 : decode cX0_init 52 = .ok (.iinc 1 1, 3) := by decide +kernel
theorem dX0_init_55 : decode cX0_init 55 = .ok (.goto (-22), 3) := by decide +kernel
theorem dX0_init_58 : decode cX0_init 58 = .ok (.return_, 1) := by decide +kernel
theorem dX0_forget_0 : decode cX0_forget 0 = .ok (.aload_n 0, 1) := by decide +kernel
theorem dX0_forget_1 : decode cX0_forget 1 = .ok (.iconst 0, 1) := by decide +kernel
theorem dX0_forget_2 : decode cX0_forget 2 = .ok (.putfield 26, 3) := by decide +kernel
theorem dX0_forget_5 : decode cX0_forget 5 = .ok (.aload_n 0, 1) := by decide +kernel
theorem dX0_forget_6 : decode cX0_forget 6 = .ok (.lconst 0, 1) := by decide +kernel
theorem dX0_forget_7 : decode cX0_forget 7 = .ok (.putfield 30, 3) := by decide +kernel
theorem dX0_forget_10 : decode cX0_forget 10 = .ok (.aload_n 0, 1) := by decide +kernel
theorem dX0_forget_11 : decode cX0_forget 11 = .ok (.lconst 0, 1) := by decide +kernel
theorem dX0_forget_12 : decode cX0_forget 12 = .ok (.putfield 34, 3) := by decide +kernel
theorem dX0_forget_15 : decode cX0_forget 15 = .ok (.return_, 1) := by decide +kernel
theorem dX0_isKnown_0 : decode cX0_isKnown 0 = .ok (.aload_n 0, 1) := by decide +kernel
theorem dX0_isKnown_1 : decode cX0_isKnown 1 = .ok (.getfield 26, 3) := by decide +kernel
theorem dX0_isKnown_4 : decode cX0_isKnown 4 = .ok (.ifCond .le 7, 3) := by decide +kernel
theorem dX0_isKnown_7 : decode cX0_isKnown 7 = .ok (.iconst 1, 1) := by decide +kernel
theorem dX0_isKnown_8 : decode cX0_isKnown 8 = .ok (.goto 4, 3) := by decide +kernel
theorem dX0_isKnown_11 : decode cX0_isKnown 11 = .ok (.iconst 0, 1) := by decide +kernel
theorem dX0_isKnown_12 : decode cX0_isKnown 12 = .ok (.ireturn, 1) := by decide +kernel
theorem dX0_knownOrNone_0 : decode cX0_knownOrNone 0 = .ok (.aload_n 0, 1) := by decide +kernel
theorem dX0_knownOrNone_1 : decode cX0_knownOrNone 1 = .ok (.invokevirtual 37, 3) := by decide +kernel
theorem dX0_knownOrNone_4 : decode cX0_knownOrNone 4 = .ok (.ifCond .eq 7, 3) := by decide +kernel
theorem dX0_knownOrNone_7 : decode cX0_knownOrNone 7 = .ok (.iload_n 1, 1) := by decide +kernel
theorem dX0_knownOrNone_8 : decode cX0_knownOrNone 8 = .ok (.goto 4, 3) := by decide +kernel
theorem dX0_knownOrNone_11 : decode cX0_knownOrNone 11 = .ok (.iconst (-1), 1) := by decide +kernel
theorem dX0_knownOrNone_12 : decode cX0_knownOrNone 12 = .ok (.ireturn, 1) := by decide +kernel
theorem dX0_pathAt_0 : decode cX0_pathAt 0 = .ok (.iload_n 1, 1) := by decide +kernel
theorem dX0_pathAt_1 : decode cX0_pathAt 1 = .ok (.ifCond .lt 20, 3) := by decide +kernel
theorem dX0_pathAt_4 : decode cX0_pathAt 4 = .ok (.iload_n 1, 1) := by decide +kernel
theorem dX0_pathAt_5 : decode cX0_pathAt 5 = .ok (.aload_n 0, 1) := by decide +kernel
theorem dX0_pathAt_6 : decode cX0_pathAt 6 = .ok (.getfield 26, 3) := by decide +kernel
theorem dX0_pathAt_9 : decode cX0_pathAt 9 = .ok (.if_icmp .ge 12, 3) := by decide +kernel
theorem dX0_pathAt_12 : decode cX0_pathAt 12 = .ok (.aload_n 0, 1) := by decide +kernel
theorem dX0_pathAt_13 : decode cX0_pathAt 13 = .ok (.getfield 11, 3) := by decide +kernel
theorem dX0_pathAt_16 : decode cX0_pathAt 16 = .ok (.iload_n 1, 1) := by decide +kernel
theorem dX0_pathAt_17 : decode cX0_pathAt 17 = .ok (.aaload, 1) := by decide +kernel
theorem dX0_pathAt_18 : decode cX0_pathAt 18 = .ok (.goto 4, 3) := by decide +kernel
theorem dX0_pathAt_21 : decode cX0_pathAt 21 = .ok (.aconst_null, 1) := by decide +kernel
theorem dX0_pathAt_22 : decode cX0_pathAt 22 = .ok (.areturn, 1) := by decide +kernel
theorem dX0_survey_0 : decode cX0_survey 0 = .ok (.aload_n 0, 1) := by decide +kernel
theorem dX0_survey_1 : decode cX0_survey 1 = .ok (.invokevirtual 41, 3) := by decide +kernel
theorem dX0_survey_4 : decode cX0_survey 4 = .ok (.aload_n 1, 1) := by decide +kernel
theorem dX0_survey_5 : decode cX0_survey 5 = .ok (.invokevirtual 44, 3) := by decide +kernel
theorem dX0_survey_8 : decode cX0_survey 8 = .ok (.istore_n 3, 1) := by decide +kernel
theorem dX0_survey_9 : decode cX0_survey 9 = .ok (.iconst 0, 1) := by decide +kernel
theorem dX0_survey_10 : decode cX0_survey 10 = .ok (.istore 4, 2) := by decide +kernel
theorem dX0_survey_12 : decode cX0_survey 12 = .ok (.iload 4, 2) := by decide +kernel
theorem dX0_survey_14 : decode cX0_survey 14 = .ok (.iload_n 3, 1) := by decide +kernel
theorem dX0_survey_15 : decode cX0_survey 15 = .ok (.if_icmp .ge 32, 3) := by decide +kernel
theorem dX0_survey_18 : decode cX0_survey 18 = .ok (.aload_n 2, 1) := by decide +kernel
theorem dX0_survey_19 : decode cX0_survey 19 = .ok (.aload_n 1, 1) := by decide +kernel
theorem dX0_survey_20 : decode cX0_survey 20 = .ok (.iload 4, 2) := by decide +kernel
theorem dX0_survey_22 : decode cX0_survey 22 = .ok (.aconst_null, 1) := by decide +kernel
theorem dX0_survey_23 : decode cX0_survey 23 = .ok (.invokevirtual 50, 3) := by decide +kernel
theorem dX0_survey_26 : decode cX0_survey 26 = .ok (.aload_n 0, 1) := by decide +kernel
theorem dX0_survey_27 : decode cX0_survey 27 = .ok (.aload_n 2, 1) := by decide +kernel
theorem dX0_survey_28 : decode cX0_survey 28 = .ok (.iload 4, 2) := by decide +kernel
theorem dX0_survey_30 : decode cX0_survey 30 = .ok (.invokevirtual 56, 3) := by decide +kernel
theorem dX0_survey_33 : decode cX0_survey 33 = .ok (.ifCond .ne 8, 3) := by decide +kernel
theorem dX0_survey_36 : decode cX0_survey 36 = .ok (.aload_n 0, 1) := by decide +kernel
theorem dX0_survey_37 : decode cX0_survey 37 = .ok (.invokevirtual 41, 3) := by decide +kernel
theorem dX0_survey_40 : decode cX0_survey 40 = .ok (.return_, 1) := by decide +kernel
theorem dX0_survey_41 : decode cX0_survey 41 = .ok (.iinc 4 1, 3) := by decide +kernel
theorem dX0_survey_44 : decode cX0_survey 44 = .ok (.goto (-32), 3) := by decide +kernel
theorem dX0_survey_47 : decode cX0_survey 47 = .ok (.return_, 1) := by decide +kernel
theorem dX0_enter_0 : decode cX0_enter 0 = .ok (.aload_n 0, 1) := by decide +kernel
theorem dX0_enter_1 : decode cX0_enter 1 = .ok (.aload_n 1, 1) := by decide +kernel
theorem dX0_enter_2 : decode cX0_enter 2 = .ok (.getfield 60, 3) := by decide +kernel
theorem dX0_enter_5 : decode cX0_enter 5 = .ok (.invokevirtual 63, 3) := by decide +kernel
theorem dX0_enter_8 : decode cX0_enter 8 = .ok (.istore_n 3, 1) := by decide +kernel
theorem dX0_enter_9 : decode cX0_enter 9 = .ok (.iload_n 3, 1) := by decide +kernel
theorem dX0_enter_10 : decode cX0_enter 10 = .ok (.aload_n 0, 1) := by decide +kernel
theorem dX0_enter_11 : decode cX0_enter 11 = .ok (.getfield 26, 3) := by decide +kernel
theorem dX0_enter_14 : decode cX0_enter 14 = .ok (.if_icmp .ge 58, 3) := by decide +kernel
theorem dX0_enter_17 : decode cX0_enter 17 = .ok (.aload_n 0, 1) := by decide +kernel
theorem dX0_enter_18 : decode cX0_enter 18 = .ok (.getfield 11, 3) := by decide +kernel
theorem dX0_enter_21 : decode cX0_enter 21 = .ok (.iload_n 3, 1) := by decide +kernel
theorem dX0_enter_22 : decode cX0_enter 22 = .ok (.aaload, 1) := by decide +kernel
theorem dX0_enter_23 : decode cX0_enter 23 = .ok (.getfield 67, 3) := by decide +kernel
theorem dX0_enter_26 : decode cX0_enter 26 = .ok (.aload_n 1, 1) := by decide +kernel
theorem dX0_enter_27 : decode cX0_enter 27 = .ok (.getfield 60, 3) := by decide +kernel
theorem dX0_enter_30 : decode cX0_enter 30 = .ok (.lcmp, 1) := by decide +kernel
theorem dX0_enter_31 : decode cX0_enter 31 = .ok (.ifCond .ne 41, 3) := by decide +kernel
theorem dX0_enter_34 : decode cX0_enter 34 = .ok (.aload_n 0, 1) := by decide +kernel
theorem dX0_enter_35 : decode cX0_enter 35 = .ok (.getfield 11, 3) := by decide +kernel
theorem dX0_enter_38 : decode cX0_enter 38 = .ok (.iload_n 3, 1) := by decide +kernel
theorem dX0_enter_39 : decode cX0_enter 39 = .ok (.aaload, 1) := by decide +kernel
theorem dX0_enter_40 : decode cX0_enter 40 = .ok (.dup, 1) := by decide +kernel
theorem dX0_enter_41 : decode cX0_enter 41 = .ok (.getfield 68, 3) := by decide +kernel
theorem dX0_enter_44 : decode cX0_enter 44 = .ok (.aload_n 0, 1) := by decide +kernel
theorem dX0_enter_45 : decode cX0_enter 45 = .ok (.getfield 11, 3) := by decide +kernel
theorem dX0_enter_48 : decode cX0_enter 48 = .ok (.iload_n 3, 1) := by decide +kernel
theorem dX0_enter_49 : decode cX0_enter 49 = .ok (.aaload, 1) := by decide +kernel
theorem dX0_enter_50 : decode cX0_enter 50 = .ok (.getfield 72, 3) := by decide +kernel
theorem dX0_enter_53 : decode cX0_enter 53 = .ok (.aload_n 1, 1) := by decide +kernel
theorem dX0_enter_54 : decode cX0_enter 54 = .ok (.getfield 75, 3) := by decide +kernel
theorem dX0_enter_57 : decode cX0_enter 57 = .ok (.if_icmp .ne 7, 3) := by decide +kernel
theorem dX0_enter_60 : decode cX0_enter 60 = .ok (.iconst 1, 1) := by decide +kernel
theorem dX0_enter_61 : decode cX0_enter 61 = .ok (.goto 4, 3) := by decide +kernel
theorem dX0_enter_64 : decode cX0_enter 64 = .ok (.iconst 0, 1) := by decide +kernel
theorem dX0_enter_65 : decode cX0_enter 65 = .ok (.iand, 1) := by decide +kernel
theorem dX0_enter_66 : decode cX0_enter 66 = .ok (.putfield 68, 3) := by decide +kernel
theorem dX0_enter_69 : decode cX0_enter 69 = .ok (.goto 67, 3) := by decide +kernel
theorem dX0_enter_72 : decode cX0_enter 72 = .ok (.aload_n 0, 1) := by decide +kernel
theorem dX0_enter_73 : decode cX0_enter 73 = .ok (.getfield 26, 3) := by decide +kernel
theorem dX0_enter_76 : decode cX0_enter 76 = .ok (.bipush 40, 2) := by decide +kernel
theorem dX0_enter_78 : decode cX0_enter 78 = .ok (.if_icmp .ge 56, 3) := by decide +kernel
theorem dX0_enter_81 : decode cX0_enter 81 = .ok (.aload_n 0, 1) := by decide +kernel
theorem dX0_enter_82 : decode cX0_enter 82 = .ok (.iload_n 3, 1) := by decide +kernel
theorem dX0_enter_83 : decode cX0_enter 83 = .ok (.invokevirtual 76, 3) := by decide +kernel
theorem dX0_enter_86 : decode cX0_enter 86 = .ok (.aload_n 1, 1) := by decide +kernel
theorem dX0_enter_87 : decode cX0_enter 87 = .ok (.iload_n 2, 1) := by decide +kernel
theorem dX0_enter_88 : decode cX0_enter 88 = .ok (.invokevirtual 80, 3) := by decide +kernel
theorem dX0_enter_91 : decode cX0_enter 91 = .ok (.aload_n 0, 1) := by decide +kernel
theorem dX0_enter_92 : decode cX0_enter 92 = .ok (.dup, 1) := by decide +kernel
theorem dX0_enter_93 : decode cX0_enter 93 = .ok (.getfield 30, 3) := by decide +kernel
theorem dX0_enter_96 : decode cX0_enter 96 = .ok (.aload_n 1, 1) := by decide +kernel
theorem dX0_enter_97 : decode cX0_enter 97 = .ok (.getfield 84, 3) := by decide +kernel
theorem dX0_enter_100 : decode cX0_enter 100 = .ok (.lor, 1) := by decide +kernel
theorem dX0_enter_101 : decode cX0_enter 101 = .ok (.putfield 30, 3) := by decide +kernel
theorem dX0_enter_104 : decode cX0_enter 104 = .ok (.aload_n 0, 1) := by decide +kernel
theorem dX0_enter_105 : decode cX0_enter 105 = .ok (.dup, 1) := by decide +kernel
theorem dX0_enter_106 : decode cX0_enter 106 = .ok (.getfield 34, 3) := by decide +kernel
theorem dX0_enter_109 : decode cX0_enter 109 = .ok (.aload_n 1, 1) := by decide +kernel
theorem dX0_enter_110 : decode cX0_enter 110 = .ok (.getfield 85, 3) := by decide +kernel
theorem dX0_enter_113 : decode cX0_enter 113 = .ok (.ifCond .ne 7, 3) := by decide +kernel
theorem dX0_enter_116 : decode cX0_enter 116 = .ok (.lconst 0, 1) := by decide +kernel
theorem dX0_enter_117 : decode cX0_enter 117 = .ok (.goto 10, 3) := by decide +kernel
theorem dX0_enter_120 : decode cX0_enter 120 = .ok (.aload_n 1, 1) := by decide +kernel
theorem dX0_enter_121 : decode cX0_enter 121 = .ok (.getfield 88, 3) := by decide +kernel
theorem dX0_enter_124 : decode cX0_enter 124 = .ok (.invokestatic 91, 3) := by decide +kernel
theorem dX0_enter_127 : decode cX0_enter 127 = .ok (.lor, 1) := by decide +kernel
theorem dX0_enter_128 : decode cX0_enter 128 = .ok (.putfield 34, 3) := by decide +kernel
theorem dX0_enter_131 : decode cX0_enter 131 = .ok (.goto 5, 3) := by decide +kernel
theorem dX0_enter_134 : decode cX0_enter 134 = .ok (.iconst 0, 1) := by decide +kernel
theorem dX0_enter_135 : decode cX0_enter 135 = .ok (.ireturn, 1) := by decide +kernel
theorem dX0_enter_136 : decode cX0_enter 136 = .ok (.aload_n 0, 1) := by decide +kernel
theorem dX0_enter_137 : decode cX0_enter 137 = .ok (.getfield 17, 3) := by decide +kernel
theorem dX0_enter_140 : decode cX0_enter 140 = .ok (.iload_n 2, 1) := by decide +kernel
theorem dX0_enter_141 : decode cX0_enter 141 = .ok (.aload_n 1, 1) := by decide +kernel
theorem dX0_enter_142 : decode cX0_enter 142 = .ok (.getfield 60, 3) := by decide +kernel
theorem dX0_enter_145 : decode cX0_enter 145 = .ok (.lastore, 1) := by decide +kernel
theorem dX0_enter_146 : decode cX0_enter 146 = .ok (.aload_n 0, 1) := by decide +kernel
theorem dX0_enter_147 : decode cX0_enter 147 = .ok (.getfield 21, 3) := by decide +kernel
theorem dX0_enter_150 : decode cX0_enter 150 = .ok (.iload_n 2, 1) := by decide +kernel
theorem dX0_enter_151 : decode cX0_enter 151 = .ok (.aload_n 1, 1) := by decide +kernel
theorem dX0_enter_152 : decode cX0_enter 152 = .ok (.getfield 75, 3) := by decide +kernel
theorem dX0_enter_155 : decode cX0_enter 155 = .ok (.iastore, 1) := by decide +kernel
theorem dX0_enter_156 : decode cX0_enter 156 = .ok (.iconst 1, 1) := by decide +kernel
theorem dX0_enter_157 : decode cX0_enter 157 = .ok (.ireturn, 1) := by decide +kernel
theorem dX0_firstNotAheadOf_0 : decode cX0_firstNotAheadOf 0 = .ok (.iconst 0, 1) := by decide +kernel
theorem dX0_firstNotAheadOf_1 : decode cX0_firstNotAheadOf 1 = .ok (.istore_n 3, 1) := by decide +kernel
theorem dX0_firstNotAheadOf_2 : decode cX0_firstNotAheadOf 2 = .ok (.iload_n 3, 1) := by decide +kernel
theorem dX0_firstNotAheadOf_3 : decode cX0_firstNotAheadOf 3 = .ok (.aload_n 0, 1) := by decide +kernel
theorem dX0_firstNotAheadOf_4 : decode cX0_firstNotAheadOf 4 = .ok (.getfield 26, 3) := by decide +kernel
theorem dX0_firstNotAheadOf_7 : decode cX0_firstNotAheadOf 7 = .ok (.if_icmp .ge 25, 3) := by decide +kernel
theorem dX0_firstNotAheadOf_10 : decode cX0_firstNotAheadOf 10 = .ok (.aload_n 0, 1) := by decide +kernel
theorem dX0_firstNotAheadOf_11 : decode cX0_firstNotAheadOf 11 = .ok (.getfield 11, 3) := by decide +kernel
theorem dX0_firstNotAheadOf_14 : decode cX0_firstNotAheadOf 14 = .ok (.iload_n 3, 1) := by decide +kernel
theorem dX0_firstNotAheadOf_15 : decode cX0_firstNotAheadOf 15 = .ok (.aaload, 1) := by decide +kernel
theorem dX0_firstNotAheadOf_16 : decode cX0_firstNotAheadOf 16 = .ok (.getfield 67, 3) := by decide +kernel
theorem dX0_firstNotAheadOf_19 : decode cX0_firstNotAheadOf 19 = .ok (.lload_n 1, 1) := by decide +kernel
theorem dX0_firstNotAheadOf_20 : decode cX0_firstNotAheadOf 20 = .ok (.lcmp, 1) := by decide +kernel
theorem dX0_firstNotAheadOf_21 : decode cX0_firstNotAheadOf 21 = .ok (.ifCond .gt 5, 3) := by decide +kernel
theorem dX0_firstNotAheadOf_24 : decode cX0_firstNotAheadOf 24 = .ok (.iload_n 3, 1) := by decide +kernel
theorem dX0_firstNotAheadOf_25 : decode cX0_firstNotAheadOf 25 = .ok (.ireturn, 1) := by decide +kernel
theorem dX0_firstNotAheadOf_26 : decode cX0_firstNotAheadOf 26 = .ok (.iinc 3 1, 3) := by decide +kernel
theorem dX0_firstNotAheadOf_29 : decode cX0_firstNotAheadOf 29 = .ok (.goto (-27), 3) := by decide +kernel
theorem dX0_firstNotAheadOf_32 : decode cX0_firstNotAheadOf 32 = .ok (.aload_n 0, 1) := by decide +kernel
theorem dX0_firstNotAheadOf_33 : decode cX0_firstNotAheadOf 33 = .ok (.getfield 26, 3) := by decide +kernel
theorem dX0_firstNotAheadOf_36 : decode cX0_firstNotAheadOf 36 = .ok (.ireturn, 1) := by decide +kernel
theorem dX0_insertAt_0 : decode cX0_insertAt 0 = .ok (.aload_n 0, 1) := by decide +kernel
theorem dX0_insertAt_1 : decode cX0_insertAt 1 = .ok (.getfield 11, 3) := by decide +kernel
theorem dX0_insertAt_4 : decode cX0_insertAt 4 = .ok (.aload_n 0, 1) := by decide +kernel
theorem dX0_insertAt_5 : decode cX0_insertAt 5 = .ok (.getfield 26, 3) := by decide +kernel
theorem dX0_insertAt_8 : decode cX0_insertAt 8 = .ok (.aaload, 1) := by decide +kernel
theorem dX0_insertAt_9 : decode cX0_insertAt 9 = .ok (.astore_n 2, 1) := by decide +kernel
theorem dX0_insertAt_10 : decode cX0_insertAt 10 = .ok (.aload_n 0, 1) := by decide +kernel
theorem dX0_insertAt_11 : decode cX0_insertAt 11 = .ok (.getfield 26, 3) := by decide +kernel
theorem dX0_insertAt_14 : decode cX0_insertAt 14 = .ok (.istore_n 3, 1) := by decide +kernel
theorem dX0_insertAt_15 : decode cX0_insertAt 15 = .ok (.iload_n 3, 1) := by decide +kernel
theorem dX0_insertAt_16 : decode cX0_insertAt 16 = .ok (.iload_n 1, 1) := by decide +kernel
theorem dX0_insertAt_17 : decode cX0_insertAt 17 = .ok (.if_icmp .le 23, 3) := by decide +kernel
theorem dX0_insertAt_20 : decode cX0_insertAt 20 = .ok (.aload_n 0, 1) := by decide +kernel
theorem dX0_insertAt_21 : decode cX0_insertAt 21 = .ok (.getfield 11, 3) := by decide +kernel
theorem dX0_insertAt_24 : decode cX0_insertAt 24 = .ok (.iload_n 3, 1) := by decide +kernel
theorem dX0_insertAt_25 : decode cX0_insertAt 25 = .ok (.aload_n 0, 1) := by decide +kernel
theorem dX0_insertAt_26 : decode cX0_insertAt 26 = .ok (.getfield 11, 3) := by decide +kernel
theorem dX0_insertAt_29 : decode cX0_insertAt 29 = .ok (.iload_n 3, 1) := by decide +kernel
theorem dX0_insertAt_30 : decode cX0_insertAt 30 = .ok (.iconst 1, 1) := by decide +kernel
theorem dX0_insertAt_31 : decode cX0_insertAt 31 = .ok (.isub, 1) := by decide +kernel
theorem dX0_insertAt_32 : decode cX0_insertAt 32 = .ok (.aaload, 1) := by decide +kernel
theorem dX0_insertAt_33 : decode cX0_insertAt 33 = .ok (.aastore, 1) := by decide +kernel
theorem dX0_insertAt_34 : decode cX0_insertAt 34 = .ok (.iinc 3 (-1), 3) := by decide +kernel
theorem dX0_insertAt_37 : decode cX0_insertAt 37 = .ok (.goto (-22), 3) := by decide +kernel
theorem dX0_insertAt_40 : decode cX0_insertAt 40 = .ok (.aload_n 0, 1) := by decide +kernel
theorem dX0_insertAt_41 : decode cX0_insertAt 41 = .ok (.getfield 11, 3) := by decide +kernel
theorem dX0_insertAt_44 : decode cX0_insertAt 44 = .ok (.iload_n 1, 1) := by decide +kernel
theorem dX0_insertAt_45 : decode cX0_insertAt 45 = .ok (.aload_n 2, 1) := by decide +kernel
theorem dX0_insertAt_46 : decode cX0_insertAt 46 = .ok (.aastore, 1) := by decide +kernel
theorem dX0_insertAt_47 : decode cX0_insertAt 47 = .ok (.aload_n 0, 1) := by decide +kernel
theorem dX0_insertAt_48 : decode cX0_insertAt 48 = .ok (.dup, 1) := by decide +kernel
theorem dX0_insertAt_49 : decode cX0_insertAt 49 = .ok (.getfield 26, 3) := by decide +kernel
theorem dX0_insertAt_52 : decode cX0_insertAt 52 = .ok (.iconst 1, 1) := by decide +kernel
theorem dX0_insertAt_53 : decode cX0_insertAt 53 = .ok (.iadd, 1) := by decide +kernel
theorem dX0_insertAt_54 : decode cX0_insertAt 54 = .ok (.putfield 26, 3) := by decide +kernel
theorem dX0_insertAt_57 : decode cX0_insertAt 57 = .ok (.aload_n 2, 1) := by decide +kernel
theorem dX0_insertAt_58 : decode cX0_insertAt 58 = .ok (.areturn, 1) := by decide +kernel
theorem dX0_numberOf_0 : decode cX0_numberOf 0 = .ok (.aload_n 0, 1) := by decide +kernel
theorem dX0_numberOf_1 : decode cX0_numberOf 1 = .ok (.lload_n 1, 1) := by decide +kernel
theorem dX0_numberOf_2 : decode cX0_numberOf 2 = .ok (.invokevirtual 63, 3) := by decide +kernel
theorem dX0_numberOf_5 : decode cX0_numberOf 5 = .ok (.istore_n 3, 1) := by decide +kernel
theorem dX0_numberOf_6 : decode cX0_numberOf 6 = .ok (.iload_n 3, 1) := by decide +kernel
theorem dX0_numberOf_7 : decode cX0_numberOf 7 = .ok (.aload_n 0, 1) := by decide +kernel
theorem dX0_numberOf_8 : decode cX0_numberOf 8 = .ok (.getfield 26, 3) := by decide +kernel
theorem dX0_numberOf_11 : decode cX0_numberOf 11 = .ok (.if_icmp .ge 21, 3) := by decide +kernel
theorem dX0_numberOf_14 : decode cX0_numberOf 14 = .ok (.aload_n 0, 1) := by decide +kernel
theorem dX0_numberOf_15 : decode cX0_numberOf 15 = .ok (.getfield 11, 3) := by decide +kernel
theorem dX0_numberOf_18 : decode cX0_numberOf 18 = .ok (.iload_n 3, 1) := by decide +kernel
theorem dX0_numberOf_19 : decode cX0_numberOf 19 = .ok (.aaload, 1) := by decide +kernel
theorem dX0_numberOf_20 : decode cX0_numberOf 20 = .ok (.getfield 67, 3) := by decide +kernel
theorem dX0_numberOf_23 : decode cX0_numberOf 23 = .ok (.lload_n 1, 1) := by decide +kernel
theorem dX0_numberOf_24 : decode cX0_numberOf 24 = .ok (.lcmp, 1) := by decide +kernel
theorem dX0_numberOf_25 : decode cX0_numberOf 25 = .ok (.ifCond .ne 7, 3) := by decide +kernel
theorem dX0_numberOf_28 : decode cX0_numberOf 28 = .ok (.iload_n 3, 1) := by decide +kernel
theorem dX0_numberOf_29 : decode cX0_numberOf 29 = .ok (.goto 4, 3) := by decide +kernel
theorem dX0_numberOf_32 : decode cX0_numberOf 32 = .ok (.iconst (-1), 1) := by decide +kernel
theorem dX0_numberOf_33 : decode cX0_numberOf 33 = .ok (.ireturn, 1) := by decide +kernel
theorem dX0_goes_0 : decode cX0_goes 0 = .ok (.aload_n 0, 1) := by decide +kernel
theorem dX0_goes_1 : decode cX0_goes 1 = .ok (.getfield 17, 3) := by decide +kernel
theorem dX0_goes_4 : decode cX0_goes 4 = .ok (.iload_n 2, 1) := by decide +kernel
theorem dX0_goes_5 : decode cX0_goes 5 = .ok (.laload, 1) := by decide +kernel
theorem dX0_goes_6 : decode cX0_goes 6 = .ok (.aload_n 1, 1) := by decide +kernel
theorem dX0_goes_7 : decode cX0_goes 7 = .ok (.getfield 67, 3) := by decide +kernel
theorem dX0_goes_10 : decode cX0_goes 10 = .ok (.lcmp, 1) := by decide +kernel
theorem dX0_goes_11 : decode cX0_goes 11 = .ok (.ifCond .ne 7, 3) := by decide +kernel
theorem dX0_goes_14 : decode cX0_goes 14 = .ok (.iconst 1, 1) := by decide +kernel
theorem dX0_goes_15 : decode cX0_goes 15 = .ok (.goto 4, 3) := by decide +kernel
theorem dX0_goes_18 : decode cX0_goes 18 = .ok (.iconst 0, 1) := by decide +kernel
theorem dX0_goes_19 : decode cX0_goes 19 = .ok (.ireturn, 1) := by decide +kernel
theorem dX0_leastWordWith_0 : decode cX0_leastWordWith 0 = .ok (.aload_n 1, 1) := by decide +kernel
theorem dX0_leastWordWith_1 : decode cX0_leastWordWith 1 = .ok (.getfield 95, 3) := by decide +kernel
theorem dX0_leastWordWith_4 : decode cX0_leastWordWith 4 = .ok (.istore 5, 2) := by decide +kernel
theorem dX0_leastWordWith_6 : decode cX0_leastWordWith 6 = .ok (.iload 5, 2) := by decide +kernel
theorem dX0_leastWordWith_8 : decode cX0_leastWordWith 8 = .ok (.iload 4, 2) := by decide +kernel
theorem dX0_leastWordWith_10 : decode cX0_leastWordWith 10 = .ok (.if_icmp .ge 37, 3) := by decide +kernel
theorem dX0_leastWordWith_13 : decode cX0_leastWordWith 13 = .ok (.aload_n 0, 1) := by decide +kernel
theorem dX0_leastWordWith_14 : decode cX0_leastWordWith 14 = .ok (.aload_n 1, 1) := by decide +kernel
theorem dX0_leastWordWith_15 : decode cX0_leastWordWith 15 = .ok (.iload 5, 2) := by decide +kernel
theorem dX0_leastWordWith_17 : decode cX0_leastWordWith 17 = .ok (.invokevirtual 98, 3) := by decide +kernel
theorem dX0_leastWordWith_20 : decode cX0_leastWordWith 20 = .ok (.ifCond .eq 21, 3) := by decide +kernel
theorem dX0_leastWordWith_23 : decode cX0_leastWordWith 23 = .ok (.aload_n 0, 1) := by decide +kernel
theorem dX0_leastWordWith_24 : decode cX0_leastWordWith 24 = .ok (.getfield 21, 3) := by decide +kernel
theorem dX0_leastWordWith_27 : decode cX0_leastWordWith 27 = .ok (.iload 5, 2) := by decide +kernel
theorem dX0_leastWordWith_29 : decode cX0_leastWordWith 29 = .ok (.iaload, 1) := by decide +kernel
theorem dX0_leastWordWith_30 : decode cX0_leastWordWith 30 = .ok (.iload_n 2, 1) := by decide +kernel
theorem dX0_leastWordWith_31 : decode cX0_leastWordWith 31 = .ok (.iload_n 3, 1) := by decide +kernel
theorem dX0_leastWordWith_32 : decode cX0_leastWordWith 32 = .ok (.invokestatic 102, 3) := by decide +kernel
theorem dX0_leastWordWith_35 : decode cX0_leastWordWith 35 = .ok (.ifCond .eq 6, 3) := by decide +kernel
theorem dX0_leastWordWith_38 : decode cX0_leastWordWith 38 = .ok (.iload 5, 2) := by decide +kernel
theorem dX0_leastWordWith_40 : decode cX0_leastWordWith 40 = .ok (.ireturn, 1) := by decide +kernel
theorem dX0_leastWordWith_41 : decode cX0_leastWordWith 41 = .ok (.iinc 5 1, 3) := by decide +kernel
theorem dX0_leastWordWith_44 : decode cX0_leastWordWith 44 = .ok (.goto (-38), 3) := by decide +kernel
theorem dX0_leastWordWith_47 : decode cX0_leastWordWith 47 = .ok (.iconst (-1), 1) := by decide +kernel
theorem dX0_leastWordWith_48 : decode cX0_leastWordWith 48 = .ok (.ireturn, 1) := by decide +kernel
theorem dX0_isWanted_0 : decode cX0_isWanted 0 = .ok (.iload_n 1, 1) := by decide +kernel
theorem dX0_isWanted_1 : decode cX0_isWanted 1 = .ok (.tableswitch 70 0 3 #[31, 42, 53, 59], 31) := by decide +kernel
theorem dX0_isWanted_32 : decode cX0_isWanted 32 = .ok (.iload_n 0, 1) := by decide +kernel
theorem dX0_isWanted_33 : decode cX0_isWanted 33 = .ok (.iload_n 2, 1) := by decide +kernel
theorem dX0_isWanted_34 : decode cX0_isWanted 34 = .ok (.if_icmp .ne 7, 3) := by decide +kernel
theorem dX0_isWanted_37 : decode cX0_isWanted 37 = .ok (.iconst 1, 1) := by decide +kernel
theorem dX0_isWanted_38 : decode cX0_isWanted 38 = .ok (.goto 4, 3) := by decide +kernel
theorem dX0_isWanted_41 : decode cX0_isWanted 41 = .ok (.iconst 0, 1) := by decide +kernel
theorem dX0_isWanted_42 : decode cX0_isWanted 42 = .ok (.ireturn, 1) := by decide +kernel
theorem dX0_isWanted_43 : decode cX0_isWanted 43 = .ok (.iload_n 0, 1) := by decide +kernel
theorem dX0_isWanted_44 : decode cX0_isWanted 44 = .ok (.iload_n 2, 1) := by decide +kernel
theorem dX0_isWanted_45 : decode cX0_isWanted 45 = .ok (.if_icmp .eq 7, 3) := by decide +kernel
theorem dX0_isWanted_48 : decode cX0_isWanted 48 = .ok (.iconst 1, 1) := by decide +kernel
theorem dX0_isWanted_49 : decode cX0_isWanted 49 = .ok (.goto 4, 3) := by decide +kernel
theorem dX0_isWanted_52 : decode cX0_isWanted 52 = .ok (.iconst 0, 1) := by decide +kernel
theorem dX0_isWanted_53 : decode cX0_isWanted 53 = .ok (.ireturn, 1) := by decide +kernel
theorem dX0_isWanted_54 : decode cX0_isWanted 54 = .ok (.iload_n 0, 1) := by decide +kernel
theorem dX0_isWanted_55 : decode cX0_isWanted 55 = .ok (.iload_n 2, 1) := by decide +kernel
theorem dX0_isWanted_56 : decode cX0_isWanted 56 = .ok (.invokestatic 106, 3) := by decide +kernel
theorem dX0_isWanted_59 : decode cX0_isWanted 59 = .ok (.ireturn, 1) := by decide +kernel
theorem dX0_isWanted_60 : decode cX0_isWanted 60 = .ok (.iload_n 0, 1) := by decide +kernel
theorem dX0_isWanted_61 : decode cX0_isWanted 61 = .ok (.iload_n 2, 1) := by decide +kernel
theorem dX0_isWanted_62 : decode cX0_isWanted 62 = .ok (.if_icmp .ge 7, 3) := by decide +kernel
theorem dX0_isWanted_65 : decode cX0_isWanted 65 = .ok (.iconst 1, 1) := by decide +kernel
theorem dX0_isWanted_66 : decode cX0_isWanted 66 = .ok (.goto 4, 3) := by decide +kernel
theorem dX0_isWanted_69 : decode cX0_isWanted 69 = .ok (.iconst 0, 1) := by decide +kernel
theorem dX0_isWanted_70 : decode cX0_isWanted 70 = .ok (.ireturn, 1) := by decide +kernel
theorem dX0_isWanted_71 : decode cX0_isWanted 71 = .ok (.iconst 0, 1) := by decide +kernel
theorem dX0_isWanted_72 : decode cX0_isWanted 72 = .ok (.ireturn, 1) := by decide +kernel
theorem dX0_firstFailing_0 : decode cX0_firstFailing 0 = .ok (.aload_n 0, 1) := by decide +kernel
theorem dX0_firstFailing_1 : decode cX0_firstFailing 1 = .ok (.getfield 34, 3) := by decide +kernel
theorem dX0_firstFailing_4 : decode cX0_firstFailing 4 = .ok (.iload_n 1, 1) := by decide +kernel
theorem dX0_firstFailing_5 : decode cX0_firstFailing 5 = .ok (.invokestatic 110, 3) := by decide +kernel
theorem dX0_firstFailing_8 : decode cX0_firstFailing 8 = .ok (.istore_n 2, 1) := by decide +kernel
theorem dX0_firstFailing_9 : decode cX0_firstFailing 9 = .ok (.aconst_null, 1) := by decide +kernel
theorem dX0_firstFailing_10 : decode cX0_firstFailing 10 = .ok (.astore_n 3, 1) := by decide +kernel
theorem dX0_firstFailing_11 : decode cX0_firstFailing 11 = .ok (.iconst 0, 1) := by decide +kernel
theorem dX0_firstFailing_12 : decode cX0_firstFailing 12 = .ok (.istore 4, 2) := by decide +kernel
theorem dX0_firstFailing_14 : decode cX0_firstFailing 14 = .ok (.iload 4, 2) := by decide +kernel
theorem dX0_firstFailing_16 : decode cX0_firstFailing 16 = .ok (.aload_n 0, 1) := by decide +kernel
theorem dX0_firstFailing_17 : decode cX0_firstFailing 17 = .ok (.getfield 26, 3) := by decide +kernel
theorem dX0_firstFailing_20 : decode cX0_firstFailing 20 = .ok (.if_icmp .ge 66, 3) := by decide +kernel
theorem dX0_firstFailing_23 : decode cX0_firstFailing 23 = .ok (.aload_n 0, 1) := by decide +kernel
theorem dX0_firstFailing_24 : decode cX0_firstFailing 24 = .ok (.getfield 11, 3) := by decide +kernel
theorem dX0_firstFailing_27 : decode cX0_firstFailing 27 = .ok (.iload 4, 2) := by decide +kernel
theorem dX0_firstFailing_29 : decode cX0_firstFailing 29 = .ok (.aaload, 1) := by decide +kernel
theorem dX0_firstFailing_30 : decode cX0_firstFailing 30 = .ok (.astore 5, 2) := by decide +kernel
theorem dX0_firstFailing_32 : decode cX0_firstFailing 32 = .ok (.aload 5, 2) := by decide +kernel
theorem dX0_firstFailing_34 : decode cX0_firstFailing 34 = .ok (.getfield 114, 3) := by decide +kernel
theorem dX0_firstFailing_37 : decode cX0_firstFailing 37 = .ok (.ifCond .eq 16, 3) := by decide +kernel
theorem dX0_firstFailing_40 : decode cX0_firstFailing 40 = .ok (.aload 5, 2) := by decide +kernel
theorem dX0_firstFailing_42 : decode cX0_firstFailing 42 = .ok (.getfield 115, 3) := by decide +kernel
theorem dX0_firstFailing_45 : decode cX0_firstFailing 45 = .ok (.iload_n 2, 1) := by decide +kernel
theorem dX0_firstFailing_46 : decode cX0_firstFailing 46 = .ok (.if_icmp .ne 7, 3) := by decide +kernel
theorem dX0_firstFailing_49 : decode cX0_firstFailing 49 = .ok (.iconst 1, 1) := by decide +kernel
theorem dX0_firstFailing_50 : decode cX0_firstFailing 50 = .ok (.goto 4, 3) := by decide +kernel
theorem dX0_firstFailing_53 : decode cX0_firstFailing 53 = .ok (.iconst 0, 1) := by decide +kernel
theorem dX0_firstFailing_54 : decode cX0_firstFailing 54 = .ok (.istore 6, 2) := by decide +kernel
theorem dX0_firstFailing_56 : decode cX0_firstFailing 56 = .ok (.iload 6, 2) := by decide +kernel
theorem dX0_firstFailing_58 : decode cX0_firstFailing 58 = .ok (.ifCond .eq 22, 3) := by decide +kernel
theorem dX0_firstFailing_61 : decode cX0_firstFailing 61 = .ok (.aload_n 3, 1) := by decide +kernel
theorem dX0_firstFailing_62 : decode cX0_firstFailing 62 = .ok (.ifnull 15, 3) := by decide +kernel
theorem dX0_firstFailing_65 : decode cX0_firstFailing 65 = .ok (.aload 5, 2) := by decide +kernel
theorem dX0_firstFailing_67 : decode cX0_firstFailing 67 = .ok (.getfield 95, 3) := by decide +kernel
theorem dX0_firstFailing_70 : decode cX0_firstFailing 70 = .ok (.aload_n 3, 1) := by decide +kernel
theorem dX0_firstFailing_71 : decode cX0_firstFailing 71 = .ok (.getfield 95, 3) := by decide +kernel
theorem dX0_firstFailing_74 : decode cX0_firstFailing 74 = .ok (.if_icmp .ge 6, 3) := by decide +kernel
theorem dX0_firstFailing_77 : decode cX0_firstFailing 77 = .ok (.aload 5, 2) := by decide +kernel
theorem dX0_firstFailing_79 : decode cX0_firstFailing 79 = .ok (.astore_n 3, 1) := by decide +kernel
theorem dX0_firstFailing_80 : decode cX0_firstFailing 80 = .ok (.iinc 4 1, 3) := by decide +kernel
theorem dX0_firstFailing_83 : decode cX0_firstFailing 83 = .ok (.goto (-69), 3) := by decide +kernel
theorem dX0_firstFailing_86 : decode cX0_firstFailing 86 = .ok (.aload_n 3, 1) := by decide +kernel
theorem dX0_firstFailing_87 : decode cX0_firstFailing 87 = .ok (.areturn, 1) := by decide +kernel
theorem dX1_init_0 : decode cX1_init 0 = .ok (.aload_n 0, 1) := by decide +kernel
theorem dX1_init_1 : decode cX1_init 1 = .ok (.invokespecial 3, 3) := by decide +kernel
theorem dX1_init_4 : decode cX1_init 4 = .ok (.aload_n 0, 1) := by decide +kernel
theorem dX1_init_5 : decode cX1_init 5 = .ok (.bipush 16, 2) := by decide +kernel
theorem dX1_init_7 : decode cX1_init 7 = .ok (.newarray .int, 2) := by decide +kernel
theorem dX1_init_9 : decode cX1_init 9 = .ok (.putfield 9, 3) := by decide +kernel
theorem dX1_init_12 : decode cX1_init 12 = .ok (.aload_n 0, 1) := by decide +kernel
theorem dX1_init_13 : decode cX1_init 13 = .ok (.bipush 8, 2) := by decide +kernel
theorem dX1_init_15 : decode cX1_init 15 = .ok (.newarray .int, 2) := by decide +kernel
theorem dX1_init_17 : decode cX1_init 17 = .ok (.putfield 15, 3) := by decide +kernel
theorem dX1_init_20 : decode cX1_init 20 = .ok (.return_, 1) := by decide +kernel
theorem dX1_execute_0 : decode cX1_execute 0 = .ok (.aload_n 0, 1) := by decide +kernel
theorem dX1_execute_1 : decode cX1_execute 1 = .ok (.aload_n 3, 1) := by decide +kernel
theorem dX1_execute_2 : decode cX1_execute 2 = .ok (.invokevirtual 18, 3) := by decide +kernel
theorem dX1_execute_5 : decode cX1_execute 5 = .ok (.iconst 0, 1) := by decide +kernel
theorem dX1_execute_6 : decode cX1_execute 6 = .ok (.istore 4, 2) := by decide +kernel
theorem dX1_execute_8 : decode cX1_execute 8 = .ok (.iconst 0, 1) := by decide +kernel
theorem dX1_execute_9 : decode cX1_execute 9 = .ok (.istore 5, 2) := by decide +kernel
theorem dX1_execute_11 : decode cX1_execute 11 = .ok (.iload 5, 2) := by decide +kernel
theorem dX1_execute_13 : decode cX1_execute 13 = .ok (.bipush 60, 2) := by decide +kernel
theorem dX1_execute_15 : decode cX1_execute 15 = .ok (.if_icmp .ge 63, 3) := by decide +kernel
theorem dX1_execute_18 : decode cX1_execute 18 = .ok (.iload 4, 2) := by decide +kernel
theorem dX1_execute_20 : decode cX1_execute 20 = .ok (.aload_n 1, 1) := by decide +kernel
theorem dX1_execute_21 : decode cX1_execute 21 = .ok (.getfield 22, 3) := by decide +kernel
theorem dX1_execute_24 : decode cX1_execute 24 = .ok (.if_icmp .ge 54, 3) := by decide +kernel
theorem dX1_execute_27 : decode cX1_execute 27 = .ok (.aload_n 0, 1) := by decide +kernel
theorem dX1_execute_28 : decode cX1_execute 28 = .ok (.getfield 28, 3) := by decide +kernel
theorem dX1_execute_31 : decode cX1_execute 31 = .ok (.ifCond .ne 47, 3) := by decide +kernel
theorem dX1_execute_34 : decode cX1_execute 34 = .ok (.aload_n 0, 1) := by decide +kernel
theorem dX1_execute_35 : decode cX1_execute 35 = .ok (.iload 4, 2) := by decide +kernel
theorem dX1_execute_37 : decode cX1_execute 37 = .ok (.putfield 32, 3) := by decide +kernel
theorem dX1_execute_40 : decode cX1_execute 40 = .ok (.aload_n 0, 1) := by decide +kernel
theorem dX1_execute_41 : decode cX1_execute 41 = .ok (.aload_n 0, 1) := by decide +kernel
theorem dX1_execute_42 : decode cX1_execute 42 = .ok (.getfield 32, 3) := by decide +kernel
theorem dX1_execute_45 : decode cX1_execute 45 = .ok (.invokestatic 35, 3) := by decide +kernel
theorem dX1_execute_48 : decode cX1_execute 48 = .ok (.putfield 39, 3) := by decide +kernel
theorem dX1_execute_51 : decode cX1_execute 51 = .ok (.aload_n 0, 1) := by decide +kernel
theorem dX1_execute_52 : decode cX1_execute 52 = .ok (.dup, 1) := by decide +kernel
theorem dX1_execute_53 : decode cX1_execute 53 = .ok (.getfield 43, 3) := by decide +kernel
theorem dX1_execute_56 : decode cX1_execute 56 = .ok (.aload_n 0, 1) := by decide +kernel
theorem dX1_execute_57 : decode cX1_execute 57 = .ok (.getfield 39, 3) := by decide +kernel
theorem dX1_execute_60 : decode cX1_execute 60 = .ok (.lor, 1) := by decide +kernel
theorem dX1_execute_61 : decode cX1_execute 61 = .ok (.putfield 43, 3) := by decide +kernel
theorem dX1_execute_64 : decode cX1_execute 64 = .ok (.aload_n 0, 1) := by decide +kernel
theorem dX1_execute_65 : decode cX1_execute 65 = .ok (.aload_n 1, 1) := by decide +kernel
theorem dX1_execute_66 : decode cX1_execute 66 = .ok (.iload_n 2, 1) := by decide +kernel
theorem dX1_execute_67 : decode cX1_execute 67 = .ok (.invokevirtual 46, 3) := by decide +kernel
theorem dX1_execute_70 : decode cX1_execute 70 = .ok (.istore 4, 2) := by decide +kernel
theorem dX1_execute_72 : decode cX1_execute 72 = .ok (.iinc 5 1, 3) := by decide +kernel
theorem dX1_execute_75 : decode cX1_execute 75 = .ok (.goto (-64), 3) := by decide +kernel
theorem dX1_execute_78 : decode cX1_execute 78 = .ok (.aload_n 0, 1) := by decide +kernel
theorem dX1_execute_79 : decode cX1_execute 79 = .ok (.getfield 28, 3) := by decide +kernel
theorem dX1_execute_82 : decode cX1_execute 82 = .ok (.ifCond .ne 17, 3) := by decide +kernel
theorem dX1_execute_85 : decode cX1_execute 85 = .ok (.aload_n 0, 1) := by decide +kernel
theorem dX1_execute_86 : decode cX1_execute 86 = .ok (.aload_n 1, 1) := by decide +kernel
theorem dX1_execute_87 : decode cX1_execute 87 = .ok (.getfield 22, 3) := by decide +kernel
theorem dX1_execute_90 : decode cX1_execute 90 = .ok (.putfield 32, 3) := by decide +kernel
theorem dX1_execute_93 : decode cX1_execute 93 = .ok (.aload_n 0, 1) := by decide +kernel
theorem dX1_execute_94 : decode cX1_execute 94 = .ok (.iconst 0, 1) := by decide +kernel
theorem dX1_execute_95 : decode cX1_execute 95 = .ok (.iconst 0, 1) := by decide +kernel
theorem dX1_execute_96 : decode cX1_execute 96 = .ok (.invokevirtual 50, 3) := by decide +kernel
theorem dX1_execute_99 : decode cX1_execute 99 = .ok (.return_, 1) := by decide +kernel
theorem dX1_begin_0 : decode cX1_begin 0 = .ok (.aload_n 0, 1) := by decide +kernel
theorem dX1_begin_1 : decode cX1_begin 1 = .ok (.getfield 9, 3) := by decide +kernel
theorem dX1_begin_4 : decode cX1_begin 4 = .ok (.iconst 0, 1) := by decide +kernel
theorem dX1_begin_5 : decode cX1_begin 5 = .ok (.invokestatic 54, 3) := by decide +kernel
theorem dX1_begin_8 : decode cX1_begin 8 = .ok (.aload_n 0, 1) := by decide +kernel
theorem dX1_begin_9 : decode cX1_begin 9 = .ok (.getfield 15, 3) := by decide +kernel
theorem dX1_begin_12 : decode cX1_begin 12 = .ok (.iconst 0, 1) := by decide +kernel
theorem dX1_begin_13 : decode cX1_begin 13 = .ok (.invokestatic 54, 3) := by decide +kernel
theorem dX1_begin_16 : decode cX1_begin 16 = .ok (.aload_n 0, 1) := by decide +kernel
theorem dX1_begin_17 : decode cX1_begin 17 = .ok (.aload_n 1, 1) := by decide +kernel
theorem dX1_begin_18 : decode cX1_begin 18 = .ok (.ifnull 7, 3) := by decide +kernel
theorem dX1_begin_21 : decode cX1_begin 21 = .ok (.iconst 1, 1) := by decide +kernel
theorem dX1_begin_22 : decode cX1_begin 22 = .ok (.goto 4, 3) := by decide +kernel
theorem dX1_begin_25 : decode cX1_begin 25 = .ok (.iconst 0, 1) := by decide +kernel
theorem dX1_begin_26 : decode cX1_begin 26 = .ok (.putfield 60, 3) := by decide +kernel
theorem dX1_begin_29 : decode cX1_begin 29 = .ok (.aload_n 0, 1) := by decide +kernel
theorem dX1_begin_30 : decode cX1_begin 30 = .ok (.aload_n 1, 1) := by decide +kernel
theorem dX1_begin_31 : decode cX1_begin 31 = .ok (.ifnull 10, 3) := by decide +kernel
theorem dX1_begin_34 : decode cX1_begin 34 = .ok (.aload_n 1, 1) := by decide +kernel
theorem dX1_begin_35 : decode cX1_begin 35 = .ok (.getfield 63, 3) := by decide +kernel
theorem dX1_begin_38 : decode cX1_begin 38 = .ok (.goto 4, 3) := by decide +kernel
theorem dX1_begin_41 : decode cX1_begin 41 = .ok (.lconst 0, 1) := by decide +kernel
theorem dX1_begin_42 : decode cX1_begin 42 = .ok (.putfield 68, 3) := by decide +kernel
theorem dX1_begin_45 : decode cX1_begin 45 = .ok (.aload_n 0, 1) := by decide +kernel
theorem dX1_begin_46 : decode cX1_begin 46 = .ok (.lconst 0, 1) := by decide +kernel
theorem dX1_begin_47 : decode cX1_begin 47 = .ok (.putfield 43, 3) := by decide +kernel
theorem dX1_begin_50 : decode cX1_begin 50 = .ok (.aload_n 0, 1) := by decide +kernel
theorem dX1_begin_51 : decode cX1_begin 51 = .ok (.lconst 0, 1) := by decide +kernel
theorem dX1_begin_52 : decode cX1_begin 52 = .ok (.putfield 71, 3) := by decide +kernel
theorem dX1_begin_55 : decode cX1_begin 55 = .ok (.aload_n 0, 1) := by decide +kernel
theorem dX1_begin_56 : decode cX1_begin 56 = .ok (.lconst 0, 1) := by decide +kernel
theorem dX1_begin_57 : decode cX1_begin 57 = .ok (.putfield 74, 3) := by decide +kernel
theorem dX1_begin_60 : decode cX1_begin 60 = .ok (.aload_n 0, 1) := by decide +kernel
theorem dX1_begin_61 : decode cX1_begin 61 = .ok (.iconst 0, 1) := by decide +kernel
theorem dX1_begin_62 : decode cX1_begin 62 = .ok (.putfield 28, 3) := by decide +kernel
theorem dX1_begin_65 : decode cX1_begin 65 = .ok (.return_, 1) := by decide +kernel
theorem dX1_stop_0 : decode cX1_stop 0 = .ok (.aload_n 0, 1) := by decide +kernel
theorem dX1_stop_1 : decode cX1_stop 1 = .ok (.iconst 1, 1) := by decide +kernel
theorem dX1_stop_2 : decode cX1_stop 2 = .ok (.putfield 28, 3) := by decide +kernel
theorem dX1_stop_5 : decode cX1_stop 5 = .ok (.aload_n 0, 1) := by decide +kernel
theorem dX1_stop_6 : decode cX1_stop 6 = .ok (.iload_n 1, 1) := by decide +kernel
theorem dX1_stop_7 : decode cX1_stop 7 = .ok (.putfield 75, 3) := by decide +kernel
theorem dX1_stop_10 : decode cX1_stop 10 = .ok (.aload_n 0, 1) := by decide +kernel
theorem dX1_stop_11 : decode cX1_stop 11 = .ok (.iload_n 2, 1) := by decide +kernel
theorem dX1_stop_12 : decode cX1_stop 12 = .ok (.putfield 78, 3) := by decide +kernel
theorem dX1_stop_15 : decode cX1_stop 15 = .ok (.return_, 1) := by decide +kernel
theorem dX1_decide_0 : decode cX1_decide 0 = .ok (.aload_n 0, 1) := by decide +kernel
theorem dX1_decide_1 : decode cX1_decide 1 = .ok (.getfield 60, 3) := by decide +kernel
theorem dX1_decide_4 : decode cX1_decide 4 = .ok (.ifCond .eq 25, 3) := by decide +kernel
theorem dX1_decide_7 : decode cX1_decide 7 = .ok (.aload_n 0, 1) := by decide +kernel
theorem dX1_decide_8 : decode cX1_decide 8 = .ok (.getfield 68, 3) := by decide +kernel
theorem dX1_decide_11 : decode cX1_decide 11 = .ok (.aload_n 0, 1) := by decide +kernel
theorem dX1_decide_12 : decode cX1_decide 12 = .ok (.getfield 39, 3) := by decide +kernel
theorem dX1_decide_15 : decode cX1_decide 15 = .ok (.land, 1) := by decide +kernel
theorem dX1_decide_16 : decode cX1_decide 16 = .ok (.lconst 0, 1) := by decide +kernel
theorem dX1_decide_17 : decode cX1_decide 17 = .ok (.lcmp, 1) := by decide +kernel
theorem dX1_decide_18 : decode cX1_decide 18 = .ok (.ifCond .eq 7, 3) := by decide +kernel
theorem dX1_decide_21 : decode cX1_decide 21 = .ok (.iconst 1, 1) := by decide +kernel
theorem dX1_decide_22 : decode cX1_decide 22 = .ok (.goto 8, 3) := by decide +kernel
theorem dX1_decide_25 : decode cX1_decide 25 = .ok (.iconst 0, 1) := by decide +kernel
theorem dX1_decide_26 : decode cX1_decide 26 = .ok (.goto 4, 3) := by decide +kernel
theorem dX1_decide_29 : decode cX1_decide 29 = .ok (.iload_n 1, 1) := by decide +kernel
theorem dX1_decide_30 : decode cX1_decide 30 = .ok (.istore_n 2, 1) := by decide +kernel
theorem dX1_decide_31 : decode cX1_decide 31 = .ok (.aload_n 0, 1) := by decide +kernel
theorem dX1_decide_32 : decode cX1_decide 32 = .ok (.dup, 1) := by decide +kernel
theorem dX1_decide_33 : decode cX1_decide 33 = .ok (.getfield 71, 3) := by decide +kernel
theorem dX1_decide_36 : decode cX1_decide 36 = .ok (.aload_n 0, 1) := by decide +kernel
theorem dX1_decide_37 : decode cX1_decide 37 = .ok (.getfield 39, 3) := by decide +kernel
theorem dX1_decide_40 : decode cX1_decide 40 = .ok (.lor, 1) := by decide +kernel
theorem dX1_decide_41 : decode cX1_decide 41 = .ok (.putfield 71, 3) := by decide +kernel
theorem dX1_decide_44 : decode cX1_decide 44 = .ok (.iload_n 2, 1) := by decide +kernel
theorem dX1_decide_45 : decode cX1_decide 45 = .ok (.ifCond .eq 16, 3) := by decide +kernel
theorem dX1_decide_48 : decode cX1_decide 48 = .ok (.aload_n 0, 1) := by decide +kernel
theorem dX1_decide_49 : decode cX1_decide 49 = .ok (.dup, 1) := by decide +kernel
theorem dX1_decide_50 : decode cX1_decide 50 = .ok (.getfield 74, 3) := by decide +kernel
theorem dX1_decide_53 : decode cX1_decide 53 = .ok (.aload_n 0, 1) := by decide +kernel
theorem dX1_decide_54 : decode cX1_decide 54 = .ok (.getfield 39, 3) := by decide +kernel
theorem dX1_decide_57 : decode cX1_decide 57 = .ok (.lor, 1) := by decide +kernel
theorem dX1_decide_58 : decode cX1_decide 58 = .ok (.putfield 74, 3) := by decide +kernel
theorem dX1_decide_61 : decode cX1_decide 61 = .ok (.iload_n 2, 1) := by decide +kernel
theorem dX1_decide_62 : decode cX1_decide 62 = .ok (.ireturn, 1) := by decide +kernel
theorem dX1_step_0 : decode cX1_step 0 = .ok (.aload_n 1, 1) := by decide +kernel
theorem dX1_step_1 : decode cX1_step 1 = .ok (.getfield 81, 3) := by decide +kernel
theorem dX1_step_4 : decode cX1_step 4 = .ok (.aload_n 0, 1) := by decide +kernel
theorem dX1_step_5 : decode cX1_step 5 = .ok (.getfield 32, 3) := by decide +kernel
theorem dX1_step_8 : decode cX1_step 8 = .ok (.iaload, 1) := by decide +kernel
theorem dX1_step_9 : decode cX1_step 9 = .ok (.istore_n 3, 1) := by decide +kernel
theorem dX1_step_10 : decode cX1_step 10 = .ok (.aload_n 1, 1) := by decide +kernel
theorem dX1_step_11 : decode cX1_step 11 = .ok (.getfield 84, 3) := by decide +kernel
theorem dX1_step_14 : decode cX1_step 14 = .ok (.aload_n 0, 1) := by decide +kernel
theorem dX1_step_15 : decode cX1_step 15 = .ok (.getfield 32, 3) := by decide +kernel
theorem dX1_step_18 : decode cX1_step 18 = .ok (.iaload, 1) := by decide +kernel
theorem dX1_step_19 : decode cX1_step 19 = .ok (.istore 4, 2) := by decide +kernel
theorem dX1_step_21 : decode cX1_step 21 = .ok (.aload_n 1, 1) := by decide +kernel
theorem dX1_step_22 : decode cX1_step 22 = .ok (.getfield 87, 3) := by decide +kernel
theorem dX1_step_25 : decode cX1_step 25 = .ok (.aload_n 0, 1) := by decide +kernel
theorem dX1_step_26 : decode cX1_step 26 = .ok (.getfield 32, 3) := by decide +kernel
theorem dX1_step_29 : decode cX1_step 29 = .ok (.iaload, 1) := by decide +kernel
theorem dX1_step_30 : decode cX1_step 30 = .ok (.istore 5, 2) := by decide +kernel
theorem dX1_step_32 : decode cX1_step 32 = .ok (.iload_n 3, 1) := by decide +kernel
theorem dX1_step_33 : decode cX1_step 33 = .ok (.tableswitch 339 0 31 #[143, 155, 172, 339, 339, 339, 339, 339, 339, 339, 339, 339, 339, 339, 339, 339, 339, 339, 339, 339, 339, 339, 189, 208, 339, 226, 242, 263, 297, 300, 314, 324], 143) := by decide +kernel
theorem dX1_step_176 : decode cX1_step 176 = .ok (.aload_n 0, 1) := by decide +kernel
theorem dX1_step_177 : decode cX1_step 177 = .ok (.getfield 9, 3) := by decide +kernel
theorem dX1_step_180 : decode cX1_step 180 = .ok (.iload 4, 2) := by decide +kernel
theorem dX1_step_182 : decode cX1_step 182 = .ok (.iload 5, 2) := by decide +kernel
theorem dX1_step_184 : decode cX1_step 184 = .ok (.iastore, 1) := by decide +kernel
theorem dX1_step_185 : decode cX1_step 185 = .ok (.goto 215, 3) := by decide +kernel
theorem dX1_step_188 : decode cX1_step 188 = .ok (.aload_n 0, 1) := by decide +kernel
theorem dX1_step_189 : decode cX1_step 189 = .ok (.getfield 9, 3) := by decide +kernel
theorem dX1_step_192 : decode cX1_step 192 = .ok (.iload 4, 2) := by decide +kernel
theorem dX1_step_194 : decode cX1_step 194 = .ok (.aload_n 1, 1) := by decide +kernel
theorem dX1_step_195 : decode cX1_step 195 = .ok (.iload_n 2, 1) := by decide +kernel
theorem dX1_step_196 : decode cX1_step 196 = .ok (.iload 5, 2) := by decide +kernel
theorem dX1_step_198 : decode cX1_step 198 = .ok (.invokevirtual 90, 3) := by decide +kernel
theorem dX1_step_201 : decode cX1_step 201 = .ok (.iastore, 1) := by decide +kernel
theorem dX1_step_202 : decode cX1_step 202 = .ok (.goto 198, 3) := by decide +kernel
theorem dX1_step_205 : decode cX1_step 205 = .ok (.aload_n 0, 1) := by decide +kernel
theorem dX1_step_206 : decode cX1_step 206 = .ok (.getfield 9, 3) := by decide +kernel
theorem dX1_step_209 : decode cX1_step 209 = .ok (.iload 4, 2) := by decide +kernel
theorem dX1_step_211 : decode cX1_step 211 = .ok (.aload_n 0, 1) := by decide +kernel
theorem dX1_step_212 : decode cX1_step 212 = .ok (.getfield 9, 3) := by decide +kernel
theorem dX1_step_215 : decode cX1_step 215 = .ok (.iload 5, 2) := by decide +kernel
theorem dX1_step_217 : decode cX1_step 217 = .ok (.iaload, 1) := by decide +kernel
theorem dX1_step_218 : decode cX1_step 218 = .ok (.iastore, 1) := by decide +kernel
theorem dX1_step_219 : decode cX1_step 219 = .ok (.goto 181, 3) := by decide +kernel
theorem dX1_step_222 : decode cX1_step 222 = .ok (.aload_n 0, 1) := by decide +kernel
theorem dX1_step_223 : decode cX1_step 223 = .ok (.getfield 9, 3) := by decide +kernel
theorem dX1_step_226 : decode cX1_step 226 = .ok (.iload 4, 2) := by decide +kernel
theorem dX1_step_228 : decode cX1_step 228 = .ok (.aload_n 0, 1) := by decide +kernel
theorem dX1_step_229 : decode cX1_step 229 = .ok (.getfield 9, 3) := by decide +kernel
theorem dX1_step_232 : decode cX1_step 232 = .ok (.iload 5, 2) := by decide +kernel
theorem dX1_step_234 : decode cX1_step 234 = .ok (.iaload, 1) := by decide +kernel
theorem dX1_step_235 : decode cX1_step 235 = .ok (.iconst (-1), 1) := by decide +kernel
theorem dX1_step_236 : decode cX1_step 236 = .ok (.ixor, 1) := by decide +kernel
theorem dX1_step_237 : decode cX1_step 237 = .ok (.iastore, 1) := by decide +kernel
theorem dX1_step_238 : decode cX1_step 238 = .ok (.goto 162, 3) := by decide +kernel
theorem dX1_step_241 : decode cX1_step 241 = .ok (.aload_n 0, 1) := by decide +kernel
theorem dX1_step_242 : decode cX1_step 242 = .ok (.getfield 9, 3) := by decide +kernel
theorem dX1_step_245 : decode cX1_step 245 = .ok (.iload 4, 2) := by decide +kernel
theorem dX1_step_247 : decode cX1_step 247 = .ok (.aload_n 0, 1) := by decide +kernel
theorem dX1_step_248 : decode cX1_step 248 = .ok (.getfield 9, 3) := by decide +kernel
theorem dX1_step_251 : decode cX1_step 251 = .ok (.iload 5, 2) := by decide +kernel
theorem dX1_step_253 : decode cX1_step 253 = .ok (.iaload, 1) := by decide +kernel
theorem dX1_step_254 : decode cX1_step 254 = .ok (.ineg, 1) := by decide +kernel
theorem dX1_step_255 : decode cX1_step 255 = .ok (.iastore, 1) := by decide +kernel
theorem dX1_step_256 : decode cX1_step 256 = .ok (.goto 144, 3) := by decide +kernel
theorem dX1_step_259 : decode cX1_step 259 = .ok (.aload_n 0, 1) := by decide +kernel
theorem dX1_step_260 : decode cX1_step 260 = .ok (.iload 4, 2) := by decide +kernel
theorem dX1_step_262 : decode cX1_step 262 = .ok (.aload_n 0, 1) := by decide +kernel
theorem dX1_step_263 : decode cX1_step 263 = .ok (.getfield 9, 3) := by decide +kernel
theorem dX1_step_266 : decode cX1_step 266 = .ok (.iload 5, 2) := by decide +kernel
theorem dX1_step_268 : decode cX1_step 268 = .ok (.iaload, 1) := by decide +kernel
theorem dX1_step_269 : decode cX1_step 269 = .ok (.invokevirtual 94, 3) := by decide +kernel
theorem dX1_step_272 : decode cX1_step 272 = .ok (.goto 128, 3) := by decide +kernel
theorem dX1_step_275 : decode cX1_step 275 = .ok (.aload_n 0, 1) := by decide +kernel
theorem dX1_step_276 : decode cX1_step 276 = .ok (.aload_n 0, 1) := by decide +kernel
theorem dX1_step_277 : decode cX1_step 277 = .ok (.getfield 9, 3) := by decide +kernel
theorem dX1_step_280 : decode cX1_step 280 = .ok (.iload 4, 2) := by decide +kernel
theorem dX1_step_282 : decode cX1_step 282 = .ok (.iaload, 1) := by decide +kernel
theorem dX1_step_283 : decode cX1_step 283 = .ok (.aload_n 0, 1) := by decide +kernel
theorem dX1_step_284 : decode cX1_step 284 = .ok (.getfield 9, 3) := by decide +kernel
theorem dX1_step_287 : decode cX1_step 287 = .ok (.iload 5, 2) := by decide +kernel
theorem dX1_step_289 : decode cX1_step 289 = .ok (.iaload, 1) := by decide +kernel
theorem dX1_step_290 : decode cX1_step 290 = .ok (.invokevirtual 97, 3) := by decide +kernel
theorem dX1_step_293 : decode cX1_step 293 = .ok (.goto 107, 3) := by decide +kernel
theorem dX1_step_296 : decode cX1_step 296 = .ok (.aload_n 0, 1) := by decide +kernel
theorem dX1_step_297 : decode cX1_step 297 = .ok (.aload_n 0, 1) := by decide +kernel
theorem dX1_step_298 : decode cX1_step 298 = .ok (.getfield 9, 3) := by decide +kernel
theorem dX1_step_301 : decode cX1_step 301 = .ok (.iload 4, 2) := by decide +kernel
theorem dX1_step_303 : decode cX1_step 303 = .ok (.iaload, 1) := by decide +kernel
theorem dX1_step_304 : decode cX1_step 304 = .ok (.ifCond .eq 7, 3) := by decide +kernel
theorem dX1_step_307 : decode cX1_step 307 = .ok (.iconst 1, 1) := by decide +kernel
theorem dX1_step_308 : decode cX1_step 308 = .ok (.goto 4, 3) := by decide +kernel
theorem dX1_step_311 : decode cX1_step 311 = .ok (.iconst 0, 1) := by decide +kernel
theorem dX1_step_312 : decode cX1_step 312 = .ok (.invokevirtual 100, 3) := by decide +kernel
theorem dX1_step_315 : decode cX1_step 315 = .ok (.ifCond .eq 8, 3) := by decide +kernel
theorem dX1_step_318 : decode cX1_step 318 = .ok (.iload 5, 2) := by decide +kernel
theorem dX1_step_320 : decode cX1_step 320 = .ok (.goto 9, 3) := by decide +kernel
theorem dX1_step_323 : decode cX1_step 323 = .ok (.aload_n 0, 1) := by decide +kernel
theorem dX1_step_324 : decode cX1_step 324 = .ok (.getfield 32, 3) := by decide +kernel
theorem dX1_step_327 : decode cX1_step 327 = .ok (.iconst 1, 1) := by decide +kernel
theorem dX1_step_328 : decode cX1_step 328 = .ok (.iadd, 1) := by decide +kernel
theorem dX1_step_329 : decode cX1_step 329 = .ok (.ireturn, 1) := by decide +kernel
theorem dX1_step_330 : decode cX1_step 330 = .ok (.iload 4, 2) := by decide +kernel
theorem dX1_step_332 : decode cX1_step 332 = .ok (.ireturn, 1) := by decide +kernel
theorem dX1_step_333 : decode cX1_step 333 = .ok (.aload_n 0, 1) := by decide +kernel
theorem dX1_step_334 : decode cX1_step 334 = .ok (.aload_n 0, 1) := by decide +kernel
theorem dX1_step_335 : decode cX1_step 335 = .ok (.getfield 9, 3) := by decide +kernel
theorem dX1_step_338 : decode cX1_step 338 = .ok (.iload 4, 2) := by decide +kernel
theorem dX1_step_340 : decode cX1_step 340 = .ok (.iaload, 1) := by decide +kernel
theorem dX1_step_341 : decode cX1_step 341 = .ok (.invokevirtual 104, 3) := by decide +kernel
theorem dX1_step_344 : decode cX1_step 344 = .ok (.goto 56, 3) := by decide +kernel
theorem dX1_step_347 : decode cX1_step 347 = .ok (.aload_n 0, 1) := by decide +kernel
theorem dX1_step_348 : decode cX1_step 348 = .ok (.iconst 4, 1) := by decide +kernel
theorem dX1_step_349 : decode cX1_step 349 = .ok (.iload 4, 2) := by decide +kernel
theorem dX1_step_351 : decode cX1_step 351 = .ok (.invokevirtual 50, 3) := by decide +kernel
theorem dX1_step_354 : decode cX1_step 354 = .ok (.goto 46, 3) := by decide +kernel
theorem dX1_step_357 : decode cX1_step 357 = .ok (.aload_n 0, 1) := by decide +kernel
theorem dX1_step_358 : decode cX1_step 358 = .ok (.iconst 0, 1) := by decide +kernel
theorem dX1_step_359 : decode cX1_step 359 = .ok (.aload_n 0, 1) := by decide +kernel
theorem dX1_step_360 : decode cX1_step 360 = .ok (.getfield 9, 3) := by decide +kernel
theorem dX1_step_363 : decode cX1_step 363 = .ok (.iload 4, 2) := by decide +kernel
theorem dX1_step_365 : decode cX1_step 365 = .ok (.iaload, 1) := by decide +kernel
theorem dX1_step_366 : decode cX1_step 366 = .ok (.invokevirtual 50, 3) := by decide +kernel
theorem dX1_step_369 : decode cX1_step 369 = .ok (.goto 31, 3) := by decide +kernel
theorem dX1_step_372 : decode cX1_step 372 = .ok (.aload_n 0, 1) := by decide +kernel
theorem dX1_step_373 : decode cX1_step 373 = .ok (.iload_n 3, 1) := by decide +kernel
theorem dX1_step_374 : decode cX1_step 374 = .ok (.iload 4, 2) := by decide +kernel
theorem dX1_step_376 : decode cX1_step 376 = .ok (.aload_n 0, 1) := by decide +kernel
theorem dX1_step_377 : decode cX1_step 377 = .ok (.getfield 9, 3) := by decide +kernel
theorem dX1_step_380 : decode cX1_step 380 = .ok (.iload 5, 2) := by decide +kernel
theorem dX1_step_382 : decode cX1_step 382 = .ok (.iaload, 1) := by decide +kernel
theorem dX1_step_383 : decode cX1_step 383 = .ok (.aload_n 0, 1) := by decide +kernel
theorem dX1_step_384 : decode cX1_step 384 = .ok (.getfield 9, 3) := by decide +kernel
theorem dX1_step_387 : decode cX1_step 387 = .ok (.aload_n 1, 1) := by decide +kernel
theorem dX1_step_388 : decode cX1_step 388 = .ok (.getfield 108, 3) := by decide +kernel
theorem dX1_step_391 : decode cX1_step 391 = .ok (.aload_n 0, 1) := by decide +kernel
theorem dX1_step_392 : decode cX1_step 392 = .ok (.getfield 32, 3) := by decide +kernel
theorem dX1_step_395 : decode cX1_step 395 = .ok (.iaload, 1) := by decide +kernel
theorem dX1_step_396 : decode cX1_step 396 = .ok (.iaload, 1) := by decide +kernel
theorem dX1_step_397 : decode cX1_step 397 = .ok (.invokevirtual 111, 3) := by decide +kernel
theorem dX1_step_400 : decode cX1_step 400 = .ok (.aload_n 0, 1) := by decide +kernel
theorem dX1_step_401 : decode cX1_step 401 = .ok (.getfield 32, 3) := by decide +kernel
theorem dX1_step_404 : decode cX1_step 404 = .ok (.iconst 1, 1) := by decide +kernel
theorem dX1_step_405 : decode cX1_step 405 = .ok (.iadd, 1) := by decide +kernel
theorem dX1_step_406 : decode cX1_step 406 = .ok (.ireturn, 1) := by decide +kernel
theorem dX1_calculate_0 : decode cX1_calculate 0 = .ok (.iload_n 1, 1) := by decide +kernel
theorem dX1_calculate_1 : decode cX1_calculate 1 = .ok (.invokestatic 115, 3) := by decide +kernel
theorem dX1_calculate_4 : decode cX1_calculate 4 = .ok (.ifCond .eq 45, 3) := by decide +kernel
theorem dX1_calculate_7 : decode cX1_calculate 7 = .ok (.aload_n 0, 1) := by decide +kernel
theorem dX1_calculate_8 : decode cX1_calculate 8 = .ok (.iload 4, 2) := by decide +kernel
theorem dX1_calculate_10 : decode cX1_calculate 10 = .ok (.ifCond .eq 7, 3) := by decide +kernel
theorem dX1_calculate_13 : decode cX1_calculate 13 = .ok (.iconst 1, 1) := by decide +kernel
theorem dX1_calculate_14 : decode cX1_calculate 14 = .ok (.goto 4, 3) := by decide +kernel
theorem dX1_calculate_17 : decode cX1_calculate 17 = .ok (.iconst 0, 1) := by decide +kernel
theorem dX1_calculate_18 : decode cX1_calculate 18 = .ok (.invokevirtual 100, 3) := by decide +kernel
theorem dX1_calculate_21 : decode cX1_calculate 21 = .ok (.ifCond .eq 19, 3) := by decide +kernel
theorem dX1_calculate_24 : decode cX1_calculate 24 = .ok (.aload_n 0, 1) := by decide +kernel
theorem dX1_calculate_25 : decode cX1_calculate 25 = .ok (.getfield 9, 3) := by decide +kernel
theorem dX1_calculate_28 : decode cX1_calculate 28 = .ok (.iload_n 2, 1) := by decide +kernel
theorem dX1_calculate_29 : decode cX1_calculate 29 = .ok (.iload_n 1, 1) := by decide +kernel
theorem dX1_calculate_30 : decode cX1_calculate 30 = .ok (.iload_n 3, 1) := by decide +kernel
theorem dX1_calculate_31 : decode cX1_calculate 31 = .ok (.iload 4, 2) := by decide +kernel
theorem dX1_calculate_33 : decode cX1_calculate 33 = .ok (.invokestatic 119, 3) := by decide +kernel
theorem dX1_calculate_36 : decode cX1_calculate 36 = .ok (.iastore, 1) := by decide +kernel
theorem dX1_calculate_37 : decode cX1_calculate 37 = .ok (.goto 46, 3) := by decide +kernel
theorem dX1_calculate_40 : decode cX1_calculate 40 = .ok (.aload_n 0, 1) := by decide +kernel
theorem dX1_calculate_41 : decode cX1_calculate 41 = .ok (.iconst 1, 1) := by decide +kernel
theorem dX1_calculate_42 : decode cX1_calculate 42 = .ok (.iconst 0, 1) := by decide +kernel
theorem dX1_calculate_43 : decode cX1_calculate 43 = .ok (.invokevirtual 50, 3) := by decide +kernel
theorem dX1_calculate_46 : decode cX1_calculate 46 = .ok (.goto 37, 3) := by decide +kernel
theorem dX1_calculate_49 : decode cX1_calculate 49 = .ok (.iload_n 1, 1) := by decide +kernel
theorem dX1_calculate_50 : decode cX1_calculate 50 = .ok (.bipush 24, 2) := by decide +kernel
theorem dX1_calculate_52 : decode cX1_calculate 52 = .ok (.if_icmp .eq 19, 3) := by decide +kernel
theorem dX1_calculate_55 : decode cX1_calculate 55 = .ok (.aload_n 0, 1) := by decide +kernel
theorem dX1_calculate_56 : decode cX1_calculate 56 = .ok (.getfield 9, 3) := by decide +kernel
theorem dX1_calculate_59 : decode cX1_calculate 59 = .ok (.iload_n 2, 1) := by decide +kernel
theorem dX1_calculate_60 : decode cX1_calculate 60 = .ok (.iload_n 1, 1) := by decide +kernel
theorem dX1_calculate_61 : decode cX1_calculate 61 = .ok (.iload_n 3, 1) := by decide +kernel
theorem dX1_calculate_62 : decode cX1_calculate 62 = .ok (.iload 4, 2) := by decide +kernel
theorem dX1_calculate_64 : decode cX1_calculate 64 = .ok (.invokestatic 123, 3) := by decide +kernel
theorem dX1_calculate_67 : decode cX1_calculate 67 = .ok (.iastore, 1) := by decide +kernel
theorem dX1_calculate_68 : decode cX1_calculate 68 = .ok (.goto 15, 3) := by decide +kernel
theorem dX1_calculate_71 : decode cX1_calculate 71 = .ok (.iload_n 3, 1) := by decide +kernel
theorem dX1_calculate_72 : decode cX1_calculate 72 = .ok (.ifCond .eq 11, 3) := by decide +kernel
theorem dX1_calculate_75 : decode cX1_calculate 75 = .ok (.aload_n 0, 1) := by decide +kernel
theorem dX1_calculate_76 : decode cX1_calculate 76 = .ok (.getfield 9, 3) := by decide +kernel
theorem dX1_calculate_79 : decode cX1_calculate 79 = .ok (.iload_n 2, 1) := by decide +kernel
theorem dX1_calculate_80 : decode cX1_calculate 80 = .ok (.iload 4, 2) := by decide +kernel
theorem dX1_calculate_82 : decode cX1_calculate 82 = .ok (.iastore, 1) := by decide +kernel
theorem dX1_calculate_83 : decode cX1_calculate 83 = .ok (.return_, 1) := by decide +kernel
theorem dX1_load_0 : decode cX1_load 0 = .ok (.aload_n 0, 1) := by decide +kernel
theorem dX1_load_1 : decode cX1_load 1 = .ok (.iload_n 2, 1) := by decide +kernel
theorem dX1_load_2 : decode cX1_load 2 = .ok (.invokestatic 126, 3) := by decide +kernel
theorem dX1_load_5 : decode cX1_load 5 = .ok (.invokevirtual 100, 3) := by decide +kernel
theorem dX1_load_8 : decode cX1_load 8 = .ok (.ifCond .eq 29, 3) := by decide +kernel
theorem dX1_load_11 : decode cX1_load 11 = .ok (.aload_n 0, 1) := by decide +kernel
theorem dX1_load_12 : decode cX1_load 12 = .ok (.getfield 9, 3) := by decide +kernel
theorem dX1_load_15 : decode cX1_load 15 = .ok (.iload_n 1, 1) := by decide +kernel
theorem dX1_load_16 : decode cX1_load 16 = .ok (.iload_n 2, 1) := by decide +kernel
theorem dX1_load_17 : decode cX1_load 17 = .ok (.invokestatic 126, 3) := by decide +kernel
theorem dX1_load_20 : decode cX1_load 20 = .ok (.ifCond .eq 12, 3) := by decide +kernel
theorem dX1_load_23 : decode cX1_load 23 = .ok (.aload_n 0, 1) := by decide +kernel
theorem dX1_load_24 : decode cX1_load 24 = .ok (.getfield 15, 3) := by decide +kernel
theorem dX1_load_27 : decode cX1_load 27 = .ok (.iload_n 2, 1) := by decide +kernel
theorem dX1_load_28 : decode cX1_load 28 = .ok (.iaload, 1) := by decide +kernel
theorem dX1_load_29 : decode cX1_load 29 = .ok (.goto 4, 3) := by decide +kernel
theorem dX1_load_32 : decode cX1_load 32 = .ok (.iconst 0, 1) := by decide +kernel
theorem dX1_load_33 : decode cX1_load 33 = .ok (.iastore, 1) := by decide +kernel
theorem dX1_load_34 : decode cX1_load 34 = .ok (.goto 9, 3) := by decide +kernel
theorem dX1_load_37 : decode cX1_load 37 = .ok (.aload_n 0, 1) := by decide +kernel
theorem dX1_load_38 : decode cX1_load 38 = .ok (.iconst 2, 1) := by decide +kernel
theorem dX1_load_39 : decode cX1_load 39 = .ok (.iconst 0, 1) := by decide +kernel
theorem dX1_load_40 : decode cX1_load 40 = .ok (.invokevirtual 50, 3) := by decide +kernel
theorem dX1_load_43 : decode cX1_load 43 = .ok (.return_, 1) := by decide +kernel
theorem dX1_store_0 : decode cX1_store 0 = .ok (.aload_n 0, 1) := by decide +kernel
theorem dX1_store_1 : decode cX1_store 1 = .ok (.iload_n 1, 1) := by decide +kernel
theorem dX1_store_2 : decode cX1_store 2 = .ok (.invokestatic 126, 3) := by decide +kernel
theorem dX1_store_5 : decode cX1_store 5 = .ok (.invokevirtual 100, 3) := by decide +kernel
theorem dX1_store_8 : decode cX1_store 8 = .ok (.ifCond .ne 12, 3) := by decide +kernel
theorem dX1_store_11 : decode cX1_store 11 = .ok (.aload_n 0, 1) := by decide +kernel
theorem dX1_store_12 : decode cX1_store 12 = .ok (.iconst 2, 1) := by decide +kernel
theorem dX1_store_13 : decode cX1_store 13 = .ok (.iconst 0, 1) := by decide +kernel
theorem dX1_store_14 : decode cX1_store 14 = .ok (.invokevirtual 50, 3) := by decide +kernel
theorem dX1_store_17 : decode cX1_store 17 = .ok (.goto 17, 3) := by decide +kernel
theorem dX1_store_20 : decode cX1_store 20 = .ok (.iload_n 1, 1) := by decide +kernel
theorem dX1_store_21 : decode cX1_store 21 = .ok (.invokestatic 126, 3) := by decide +kernel
theorem dX1_store_24 : decode cX1_store 24 = .ok (.ifCond .eq 10, 3) := by decide +kernel
theorem dX1_store_27 : decode cX1_store 27 = .ok (.aload_n 0, 1) := by decide +kernel
theorem dX1_store_28 : decode cX1_store 28 = .ok (.getfield 15, 3) := by decide +kernel
theorem dX1_store_31 : decode cX1_store 31 = .ok (.iload_n 1, 1) := by decide +kernel
theorem dX1_store_32 : decode cX1_store 32 = .ok (.iload_n 2, 1) := by decide +kernel
theorem dX1_store_33 : decode cX1_store 33 = .ok (.iastore, 1) := by decide +kernel
theorem dX1_store_34 : decode cX1_store 34 = .ok (.return_, 1) := by decide +kernel
theorem dX1_stopUnlessTrue_0 : decode cX1_stopUnlessTrue 0 = .ok (.aload_n 0, 1) := by decide +kernel
theorem dX1_stopUnlessTrue_1 : decode cX1_stopUnlessTrue 1 = .ok (.iload_n 1, 1) := by decide +kernel
theorem dX1_stopUnlessTrue_2 : decode cX1_stopUnlessTrue 2 = .ok (.ifCond .eq 7, 3) := by decide +kernel
theorem dX1_stopUnlessTrue_5 : decode cX1_stopUnlessTrue 5 = .ok (.iconst 1, 1) := by decide +kernel
theorem dX1_stopUnlessTrue_6 : decode cX1_stopUnlessTrue 6 = .ok (.goto 4, 3) := by decide +kernel
theorem dX1_stopUnlessTrue_9 : decode cX1_stopUnlessTrue 9 = .ok (.iconst 0, 1) := by decide +kernel
theorem dX1_stopUnlessTrue_10 : decode cX1_stopUnlessTrue 10 = .ok (.invokevirtual 100, 3) := by decide +kernel
theorem dX1_stopUnlessTrue_13 : decode cX1_stopUnlessTrue 13 = .ok (.ifCond .ne 9, 3) := by decide +kernel
theorem dX1_stopUnlessTrue_16 : decode cX1_stopUnlessTrue 16 = .ok (.aload_n 0, 1) := by decide +kernel
theorem dX1_stopUnlessTrue_17 : decode cX1_stopUnlessTrue 17 = .ok (.iconst 3, 1) := by decide +kernel
theorem dX1_stopUnlessTrue_18 : decode cX1_stopUnlessTrue 18 = .ok (.iconst 0, 1) := by decide +kernel
theorem dX1_stopUnlessTrue_19 : decode cX1_stopUnlessTrue 19 = .ok (.invokevirtual 50, 3) := by decide +kernel
theorem dX1_stopUnlessTrue_22 : decode cX1_stopUnlessTrue 22 = .ok (.return_, 1) := by decide +kernel
theorem dX2_init_0 : decode cX2_init 0 = .ok (.aload_n 0, 1) := by decide +kernel
theorem dX2_init_1 : decode cX2_init 1 = .ok (.invokespecial 1, 3) := by decide +kernel
theorem dX2_init_4 : decode cX2_init 4 = .ok (.return_, 1) := by decide +kernel
theorem dX2_take_0 : decode cX2_take 0 = .ok (.aload_n 0, 1) := by decide +kernel
theorem dX2_take_1 : decode cX2_take 1 = .ok (.aload_n 1, 1) := by decide +kernel
theorem dX2_take_2 : decode cX2_take 2 = .ok (.getfield 7, 3) := by decide +kernel
theorem dX2_take_5 : decode cX2_take 5 = .ok (.putfield 13, 3) := by decide +kernel
theorem dX2_take_8 : decode cX2_take 8 = .ok (.aload_n 0, 1) := by decide +kernel
theorem dX2_take_9 : decode cX2_take 9 = .ok (.aload_n 1, 1) := by decide +kernel
theorem dX2_take_10 : decode cX2_take 10 = .ok (.getfield 16, 3) := by decide +kernel
theorem dX2_take_13 : decode cX2_take 13 = .ok (.putfield 19, 3) := by decide +kernel
theorem dX2_take_16 : decode cX2_take 16 = .ok (.aload_n 0, 1) := by decide +kernel
theorem dX2_take_17 : decode cX2_take 17 = .ok (.aload_n 1, 1) := by decide +kernel
theorem dX2_take_18 : decode cX2_take 18 = .ok (.getfield 20, 3) := by decide +kernel
theorem dX2_take_21 : decode cX2_take 21 = .ok (.putfield 24, 3) := by decide +kernel
theorem dX2_take_24 : decode cX2_take 24 = .ok (.aload_n 0, 1) := by decide +kernel
theorem dX2_take_25 : decode cX2_take 25 = .ok (.aload_n 1, 1) := by decide +kernel
theorem dX2_take_26 : decode cX2_take 26 = .ok (.getfield 25, 3) := by decide +kernel
theorem dX2_take_29 : decode cX2_take 29 = .ok (.putfield 28, 3) := by decide +kernel
theorem dX2_take_32 : decode cX2_take 32 = .ok (.aload_n 0, 1) := by decide +kernel
theorem dX2_take_33 : decode cX2_take 33 = .ok (.iload_n 2, 1) := by decide +kernel
theorem dX2_take_34 : decode cX2_take 34 = .ok (.putfield 31, 3) := by decide +kernel
theorem dX2_take_37 : decode cX2_take 37 = .ok (.aload_n 0, 1) := by decide +kernel
theorem dX2_take_38 : decode cX2_take 38 = .ok (.aload_n 1, 1) := by decide +kernel
theorem dX2_take_39 : decode cX2_take 39 = .ok (.getfield 34, 3) := by decide +kernel
theorem dX2_take_42 : decode cX2_take 42 = .ok (.putfield 37, 3) := by decide +kernel
theorem dX2_take_45 : decode cX2_take 45 = .ok (.aload_n 0, 1) := by decide +kernel
theorem dX2_take_46 : decode cX2_take 46 = .ok (.iconst 1, 1) := by decide +kernel
theorem dX2_take_47 : decode cX2_take 47 = .ok (.putfield 38, 3) := by decide +kernel
theorem dX2_take_50 : decode cX2_take 50 = .ok (.return_, 1) := by decide +kernel
theorem dX3_init_0 : decode cX3_init 0 = .ok (.aload_n 0, 1) := by decide +kernel
theorem dX3_init_1 : decode cX3_init 1 = .ok (.invokespecial 3, 3) := by decide +kernel
theorem dX3_init_4 : decode cX3_init 4 = .ok (.aload_n 0, 1) := by decide +kernel
theorem dX3_init_5 : decode cX3_init 5 = .ok (.iconst 4, 1) := by decide +kernel
theorem dX3_init_6 : decode cX3_init 6 = .ok (.newarray .int, 2) := by decide +kernel
theorem dX3_init_8 : decode cX3_init 8 = .ok (.putfield 9, 3) := by decide +kernel
theorem dX3_init_11 : decode cX3_init 11 = .ok (.aload_n 0, 1) := by decide +kernel
theorem dX3_init_12 : decode cX3_init 12 = .ok (.iconst 4, 1) := by decide +kernel
theorem dX3_init_13 : decode cX3_init 13 = .ok (.newarray .int, 2) := by decide +kernel
theorem dX3_init_15 : decode cX3_init 15 = .ok (.putfield 15, 3) := by decide +kernel
theorem dX3_init_18 : decode cX3_init 18 = .ok (.aload_n 0, 1) := by decide +kernel
theorem dX3_init_19 : decode cX3_init 19 = .ok (.iconst 4, 1) := by decide +kernel
theorem dX3_init_20 : decode cX3_init 20 = .ok (.newarray .boolean, 2) := by decide +kernel
theorem dX3_init_22 : decode cX3_init 22 = .ok (.putfield 18, 3) := by decide +kernel
theorem dX3_init_25 : decode cX3_init 25 = .ok (.aload_n 0, 1) := by decide +kernel
theorem dX3_init_26 : decode cX3_init 26 = .ok (.bipush 60, 2) := by decide +kernel
theorem dX3_init_28 : decode cX3_init 28 = .ok (.newarray .int, 2) := by decide +kernel
theorem dX3_init_30 : decode cX3_init 30 = .ok (.putfield 22, 3) := by decide +kernel
theorem dX3_init_33 : decode cX3_init 33 = .ok (.aload_n 0, 1) := by decide +kernel
theorem dX3_init_34 : decode cX3_init 34 = .ok (.bipush 60, 2) := by decide +kernel
theorem dX3_init_36 : decode cX3_init 36 = .ok (.newarray .int, 2) := by decide +kernel
theorem dX3_init_38 : decode cX3_init 38 = .ok (.putfield 25, 3) := by decide +kernel
theorem dX3_init_41 : decode cX3_init 41 = .ok (.aload_n 0, 1) := by decide +kernel
theorem dX3_init_42 : decode cX3_init 42 = .ok (.bipush 60, 2) := by decide +kernel
theorem dX3_init_44 : decode cX3_init 44 = .ok (.newarray .int, 2) := by decide +kernel
theorem dX3_init_46 : decode cX3_init 46 = .ok (.putfield 28, 3) := by decide +kernel
theorem dX3_init_49 : decode cX3_init 49 = .ok (.aload_n 0, 1) := by decide +kernel
theorem dX3_init_50 : decode cX3_init 50 = .ok (.bipush 60, 2) := by decide +kernel
theorem dX3_init_52 : decode cX3_init 52 = .ok (.newarray .int, 2) := by decide +kernel
theorem dX3_init_54 : decode cX3_init 54 = .ok (.putfield 31, 3) := by decide +kernel
theorem dX3_init_57 : decode cX3_init 57 = .ok (.return_, 1) := by decide +kernel
theorem dX3_empty_0 : decode cX3_empty 0 = .ok (.aload_n 0, 1) := by decide +kernel
theorem dX3_empty_1 : decode cX3_empty 1 = .ok (.iconst 0, 1) := by decide +kernel
theorem dX3_empty_2 : decode cX3_empty 2 = .ok (.putfield 34, 3) := by decide +kernel
theorem dX3_empty_5 : decode cX3_empty 5 = .ok (.aload_n 0, 1) := by decide +kernel
theorem dX3_empty_6 : decode cX3_empty 6 = .ok (.iconst 0, 1) := by decide +kernel
theorem dX3_empty_7 : decode cX3_empty 7 = .ok (.putfield 38, 3) := by decide +kernel
theorem dX3_empty_10 : decode cX3_empty 10 = .ok (.aload_n 0, 1) := by decide +kernel
theorem dX3_empty_11 : decode cX3_empty 11 = .ok (.iconst 0, 1) := by decide +kernel
theorem dX3_empty_12 : decode cX3_empty 12 = .ok (.putfield 41, 3) := by decide +kernel
theorem dX3_empty_15 : decode cX3_empty 15 = .ok (.aload_n 0, 1) := by decide +kernel
theorem dX3_empty_16 : decode cX3_empty 16 = .ok (.iconst 0, 1) := by decide +kernel
theorem dX3_empty_17 : decode cX3_empty 17 = .ok (.putfield 44, 3) := by decide +kernel
theorem dX3_empty_20 : decode cX3_empty 20 = .ok (.aload_n 0, 1) := by decide +kernel
theorem dX3_empty_21 : decode cX3_empty 21 = .ok (.iconst 0, 1) := by decide +kernel
theorem dX3_empty_22 : decode cX3_empty 22 = .ok (.putfield 47, 3) := by decide +kernel
theorem dX3_empty_25 : decode cX3_empty 25 = .ok (.return_, 1) := by decide +kernel
theorem dX3_addInput_0 : decode cX3_addInput 0 = .ok (.aload_n 0, 1) := by decide +kernel
theorem dX3_addInput_1 : decode cX3_addInput 1 = .ok (.getfield 34, 3) := by decide +kernel
theorem dX3_addInput_4 : decode cX3_addInput 4 = .ok (.iconst 4, 1) := by decide +kernel
theorem dX3_addInput_5 : decode cX3_addInput 5 = .ok (.if_icmp .ge 19, 3) := by decide +kernel
theorem dX3_addInput_8 : decode cX3_addInput 8 = .ok (.iload_n 1, 1) := by decide +kernel
theorem dX3_addInput_9 : decode cX3_addInput 9 = .ok (.iconst 1, 1) := by decide +kernel
theorem dX3_addInput_10 : decode cX3_addInput 10 = .ok (.if_icmp .lt 14, 3) := by decide +kernel
theorem dX3_addInput_13 : decode cX3_addInput 13 = .ok (.iload_n 1, 1) := by decide +kernel
theorem dX3_addInput_14 : decode cX3_addInput 14 = .ok (.bipush 12, 2) := by decide +kernel
theorem dX3_addInput_16 : decode cX3_addInput 16 = .ok (.aload_n 0, 1) := by decide +kernel
theorem dX3_addInput_17 : decode cX3_addInput 17 = .ok (.getfield 38, 3) := by decide +kernel
theorem dX3_addInput_20 : decode cX3_addInput 20 = .ok (.isub, 1) := by decide +kernel
theorem dX3_addInput_21 : decode cX3_addInput 21 = .ok (.if_icmp .le 5, 3) := by decide +kernel
theorem dX3_addInput_24 : decode cX3_addInput 24 = .ok (.iconst (-1), 1) := by decide +kernel
theorem dX3_addInput_25 : decode cX3_addInput 25 = .ok (.ireturn, 1) := by decide +kernel
theorem dX3_addInput_26 : decode cX3_addInput 26 = .ok (.aload_n 0, 1) := by decide +kernel
theorem dX3_addInput_27 : decode cX3_addInput 27 = .ok (.dup, 1) := by decide +kernel
theorem dX3_addInput_28 : decode cX3_addInput 28 = .ok (.getfield 38, 3) := by decide +kernel
theorem dX3_addInput_31 : decode cX3_addInput 31 = .ok (.iload_n 1, 1) := by decide +kernel
theorem dX3_addInput_32 : decode cX3_addInput 32 = .ok (.iadd, 1) := by decide +kernel
theorem dX3_addInput_33 : decode cX3_addInput 33 = .ok (.putfield 38, 3) := by decide +kernel
theorem dX3_addInput_36 : decode cX3_addInput 36 = .ok (.aload_n 0, 1) := by decide +kernel
theorem dX3_addInput_37 : decode cX3_addInput 37 = .ok (.getfield 9, 3) := by decide +kernel
theorem dX3_addInput_40 : decode cX3_addInput 40 = .ok (.aload_n 0, 1) := by decide +kernel
theorem dX3_addInput_41 : decode cX3_addInput 41 = .ok (.getfield 34, 3) := by decide +kernel
theorem dX3_addInput_44 : decode cX3_addInput 44 = .ok (.iload_n 1, 1) := by decide +kernel
theorem dX3_addInput_45 : decode cX3_addInput 45 = .ok (.iastore, 1) := by decide +kernel
theorem dX3_addInput_46 : decode cX3_addInput 46 = .ok (.aload_n 0, 1) := by decide +kernel
theorem dX3_addInput_47 : decode cX3_addInput 47 = .ok (.getfield 15, 3) := by decide +kernel
theorem dX3_addInput_50 : decode cX3_addInput 50 = .ok (.aload_n 0, 1) := by decide +kernel
theorem dX3_addInput_51 : decode cX3_addInput 51 = .ok (.getfield 34, 3) := by decide +kernel
theorem dX3_addInput_54 : decode cX3_addInput 54 = .ok (.aload_n 0, 1) := by decide +kernel
theorem dX3_addInput_55 : decode cX3_addInput 55 = .ok (.getfield 38, 3) := by decide +kernel
theorem dX3_addInput_58 : decode cX3_addInput 58 = .ok (.iastore, 1) := by decide +kernel
theorem dX3_addInput_59 : decode cX3_addInput 59 = .ok (.aload_n 0, 1) := by decide +kernel
theorem dX3_addInput_60 : decode cX3_addInput 60 = .ok (.getfield 18, 3) := by decide +kernel
theorem dX3_addInput_63 : decode cX3_addInput 63 = .ok (.aload_n 0, 1) := by decide +kernel
theorem dX3_addInput_64 : decode cX3_addInput 64 = .ok (.getfield 34, 3) := by decide +kernel
theorem dX3_addInput_67 : decode cX3_addInput 67 = .ok (.iload_n 2, 1) := by decide +kernel
theorem dX3_addInput_68 : decode cX3_addInput 68 = .ok (.bastore, 1) := by decide +kernel
theorem dX3_addInput_69 : decode cX3_addInput 69 = .ok (.aload_n 0, 1) := by decide +kernel
theorem dX3_addInput_70 : decode cX3_addInput 70 = .ok (.dup, 1) := by decide +kernel
theorem dX3_addInput_71 : decode cX3_addInput 71 = .ok (.getfield 34, 3) := by decide +kernel
theorem dX3_addInput_74 : decode cX3_addInput 74 = .ok (.iconst 1, 1) := by decide +kernel
theorem dX3_addInput_75 : decode cX3_addInput 75 = .ok (.iadd, 1) := by decide +kernel
theorem dX3_addInput_76 : decode cX3_addInput 76 = .ok (.putfield 34, 3) := by decide +kernel
theorem dX3_addInput_79 : decode cX3_addInput 79 = .ok (.aload_n 0, 1) := by decide +kernel
theorem dX3_addInput_80 : decode cX3_addInput 80 = .ok (.getfield 34, 3) := by decide +kernel
theorem dX3_addInput_83 : decode cX3_addInput 83 = .ok (.iconst 1, 1) := by decide +kernel
theorem dX3_addInput_84 : decode cX3_addInput 84 = .ok (.isub, 1) := by decide +kernel
theorem dX3_addInput_85 : decode cX3_addInput 85 = .ok (.ireturn, 1) := by decide +kernel
theorem dX3_addInstruction_0 : decode cX3_addInstruction 0 = .ok (.aload_n 0, 1) := by decide +kernel
theorem dX3_addInstruction_1 : decode cX3_addInstruction 1 = .ok (.getfield 41, 3) := by decide +kernel
theorem dX3_addInstruction_4 : decode cX3_addInstruction 4 = .ok (.bipush 60, 2) := by decide +kernel
theorem dX3_addInstruction_6 : decode cX3_addInstruction 6 = .ok (.if_icmp .ge 23, 3) := by decide +kernel
theorem dX3_addInstruction_9 : decode cX3_addInstruction 9 = .ok (.aload_n 0, 1) := by decide +kernel
theorem dX3_addInstruction_10 : decode cX3_addInstruction 10 = .ok (.iload_n 1, 1) := by decide +kernel
theorem dX3_addInstruction_11 : decode cX3_addInstruction 11 = .ok (.iload_n 2, 1) := by decide +kernel
theorem dX3_addInstruction_12 : decode cX3_addInstruction 12 = .ok (.iload_n 3, 1) := by decide +kernel
theorem dX3_addInstruction_13 : decode cX3_addInstruction 13 = .ok (.iload 4, 2) := by decide +kernel
theorem dX3_addInstruction_15 : decode cX3_addInstruction 15 = .ok (.invokevirtual 50, 3) := by decide +kernel
theorem dX3_addInstruction_18 : decode cX3_addInstruction 18 = .ok (.ifCond .eq 11, 3) := by decide +kernel
theorem dX3_addInstruction_21 : decode cX3_addInstruction 21 = .ok (.aload_n 0, 1) := by decide +kernel
theorem dX3_addInstruction_22 : decode cX3_addInstruction 22 = .ok (.iload_n 1, 1) := by decide +kernel
theorem dX3_addInstruction_23 : decode cX3_addInstruction 23 = .ok (.invokevirtual 54, 3) := by decide +kernel
theorem dX3_addInstruction_26 : decode cX3_addInstruction 26 = .ok (.ifCond .eq 5, 3) := by decide +kernel
theorem dX3_addInstruction_29 : decode cX3_addInstruction 29 = .ok (.iconst (-1), 1) := by decide +kernel
theorem dX3_addInstruction_30 : decode cX3_addInstruction 30 = .ok (.ireturn, 1) := by decide +kernel
theorem dX3_addInstruction_31 : decode cX3_addInstruction 31 = .ok (.aload_n 0, 1) := by decide +kernel
theorem dX3_addInstruction_32 : decode cX3_addInstruction 32 = .ok (.getfield 22, 3) := by decide +kernel
theorem dX3_addInstruction_35 : decode cX3_addInstruction 35 = .ok (.aload_n 0, 1) := by decide +kernel
theorem dX3_addInstruction_36 : decode cX3_addInstruction 36 = .ok (.getfield 41, 3) := by decide +kernel
theorem dX3_addInstruction_39 : decode cX3_addInstruction 39 = .ok (.iload_n 1, 1) := by decide +kernel
theorem dX3_addInstruction_40 : decode cX3_addInstruction 40 = .ok (.iastore, 1) := by decide +kernel
theorem dX3_addInstruction_41 : decode cX3_addInstruction 41 = .ok (.aload_n 0, 1) := by decide +kernel
theorem dX3_addInstruction_42 : decode cX3_addInstruction 42 = .ok (.getfield 25, 3) := by decide +kernel
theorem dX3_addInstruction_45 : decode cX3_addInstruction 45 = .ok (.aload_n 0, 1) := by decide +kernel
theorem dX3_addInstruction_46 : decode cX3_addInstruction 46 = .ok (.getfield 41, 3) := by decide +kernel
theorem dX3_addInstruction_49 : decode cX3_addInstruction 49 = .ok (.iload_n 2, 1) := by decide +kernel
theorem dX3_addInstruction_50 : decode cX3_addInstruction 50 = .ok (.iastore, 1) := by decide +kernel
theorem dX3_addInstruction_51 : decode cX3_addInstruction 51 = .ok (.aload_n 0, 1) := by decide +kernel
theorem dX3_addInstruction_52 : decode cX3_addInstruction 52 = .ok (.getfield 28, 3) := by decide +kernel
theorem dX3_addInstruction_55 : decode cX3_addInstruction 55 = .ok (.aload_n 0, 1) := by decide +kernel
theorem dX3_addInstruction_56 : decode cX3_addInstruction 56 = .ok (.getfield 41, 3) := by decide +kernel
theorem dX3_addInstruction_59 : decode cX3_addInstruction 59 = .ok (.iload_n 3, 1) := by decide +kernel
theorem dX3_addInstruction_60 : decode cX3_addInstruction 60 = .ok (.iastore, 1) := by decide +kernel
theorem dX3_addInstruction_61 : decode cX3_addInstruction 61 = .ok (.aload_n 0, 1) := by decide +kernel
theorem dX3_addInstruction_62 : decode cX3_addInstruction 62 = .ok (.getfield 31, 3) := by decide +kernel
theorem dX3_addInstruction_65 : decode cX3_addInstruction 65 = .ok (.aload_n 0, 1) := by decide +kernel
theorem dX3_addInstruction_66 : decode cX3_addInstruction 66 = .ok (.getfield 41, 3) := by decide +kernel
theorem dX3_addInstruction_69 : decode cX3_addInstruction 69 = .ok (.iload 4, 2) := by decide +kernel
theorem dX3_addInstruction_71 : decode cX3_addInstruction 71 = .ok (.iastore, 1) := by decide +kernel
theorem dX3_addInstruction_72 : decode cX3_addInstruction 72 = .ok (.aload_n 0, 1) := by decide +kernel
theorem dX3_addInstruction_73 : decode cX3_addInstruction 73 = .ok (.dup, 1) := by decide +kernel
theorem dX3_addInstruction_74 : decode cX3_addInstruction 74 = .ok (.getfield 44, 3) := by decide +kernel
theorem dX3_addInstruction_77 : decode cX3_addInstruction 77 = .ok (.iload_n 1, 1) := by decide +kernel
theorem dX3_addInstruction_78 : decode cX3_addInstruction 78 = .ok (.iconst 5, 1) := by decide +kernel
theorem dX3_addInstruction_79 : decode cX3_addInstruction 79 = .ok (.if_icmp .ne 7, 3) := by decide +kernel
theorem dX3_addInstruction_82 : decode cX3_addInstruction 82 = .ok (.iconst 1, 1) := by decide +kernel
theorem dX3_addInstruction_83 : decode cX3_addInstruction 83 = .ok (.goto 4, 3) := by decide +kernel
theorem dX3_addInstruction_86 : decode cX3_addInstruction 86 = .ok (.iconst 0, 1) := by decide +kernel
theorem dX3_addInstruction_87 : decode cX3_addInstruction 87 = .ok (.iadd, 1) := by decide +kernel
theorem dX3_addInstruction_88 : decode cX3_addInstruction 88 = .ok (.putfield 44, 3) := by decide +kernel
theorem dX3_addInstruction_91 : decode cX3_addInstruction 91 = .ok (.aload_n 0, 1) := by decide +kernel
theorem dX3_addInstruction_92 : decode cX3_addInstruction 92 = .ok (.dup, 1) := by decide +kernel
theorem dX3_addInstruction_93 : decode cX3_addInstruction 93 = .ok (.getfield 47, 3) := by decide +kernel
theorem dX3_addInstruction_96 : decode cX3_addInstruction 96 = .ok (.iload_n 1, 1) := by decide +kernel
theorem dX3_addInstruction_97 : decode cX3_addInstruction 97 = .ok (.invokestatic 58, 3) := by decide +kernel
theorem dX3_addInstruction_100 : decode cX3_addInstruction 100 = .ok (.ifCond .eq 7, 3) := by decide +kernel
theorem dX3_addInstruction_103 : decode cX3_addInstruction 103 = .ok (.iconst 1, 1) := by decide +kernel
theorem dX3_addInstruction_104 : decode cX3_addInstruction 104 = .ok (.goto 4, 3) := by decide +kernel
theorem dX3_addInstruction_107 : decode cX3_addInstruction 107 = .ok (.iconst 0, 1) := by decide +kernel
theorem dX3_addInstruction_108 : decode cX3_addInstruction 108 = .ok (.iadd, 1) := by decide +kernel
theorem dX3_addInstruction_109 : decode cX3_addInstruction 109 = .ok (.putfield 47, 3) := by decide +kernel
theorem dX3_addInstruction_112 : decode cX3_addInstruction 112 = .ok (.aload_n 0, 1) := by decide +kernel
theorem dX3_addInstruction_113 : decode cX3_addInstruction 113 = .ok (.dup, 1) := by decide +kernel
theorem dX3_addInstruction_114 : decode cX3_addInstruction 114 = .ok (.getfield 41, 3) := by decide +kernel
theorem dX3_addInstruction_117 : decode cX3_addInstruction 117 = .ok (.iconst 1, 1) := by decide +kernel
theorem dX3_addInstruction_118 : decode cX3_addInstruction 118 = .ok (.iadd, 1) := by decide +kernel
theorem dX3_addInstruction_119 : decode cX3_addInstruction 119 = .ok (.putfield 41, 3) := by decide +kernel
theorem dX3_addInstruction_122 : decode cX3_addInstruction 122 = .ok (.aload_n 0, 1) := by decide +kernel
theorem dX3_addInstruction_123 : decode cX3_addInstruction 123 = .ok (.getfield 41, 3) := by decide +kernel
theorem dX3_addInstruction_126 : decode cX3_addInstruction 126 = .ok (.iconst 1, 1) := by decide +kernel
theorem dX3_addInstruction_127 : decode cX3_addInstruction 127 = .ok (.isub, 1) := by decide +kernel
theorem dX3_addInstruction_128 : decode cX3_addInstruction 128 = .ok (.ireturn, 1) := by decide +kernel
theorem dX3_fits_0 : decode cX3_fits 0 = .ok (.iload_n 1, 1) := by decide +kernel
theorem dX3_fits_1 : decode cX3_fits 1 = .ok (.tableswitch 237 0 31 #[143, 148, 173, 237, 237, 237, 237, 237, 237, 237, 237, 237, 237, 237, 237, 237, 237, 237, 237, 237, 237, 237, 173, 173, 237, 173, 173, 193, 214, 143, 220, 143], 143) := by decide +kernel
theorem dX3_fits_144 : decode cX3_fits 144 = .ok (.iload_n 2, 1) := by decide +kernel
theorem dX3_fits_145 : decode cX3_fits 145 = .ok (.invokestatic 61, 3) := by decide +kernel
theorem dX3_fits_148 : decode cX3_fits 148 = .ok (.ireturn, 1) := by decide +kernel
theorem dX3_fits_149 : decode cX3_fits 149 = .ok (.iload_n 2, 1) := by decide +kernel
theorem dX3_fits_150 : decode cX3_fits 150 = .ok (.invokestatic 61, 3) := by decide +kernel
theorem dX3_fits_153 : decode cX3_fits 153 = .ok (.ifCond .eq 19, 3) := by decide +kernel
theorem dX3_fits_156 : decode cX3_fits 156 = .ok (.iload_n 3, 1) := by decide +kernel
theorem dX3_fits_157 : decode cX3_fits 157 = .ok (.ifCond .lt 15, 3) := by decide +kernel
theorem dX3_fits_160 : decode cX3_fits 160 = .ok (.iload_n 3, 1) := by decide +kernel
theorem dX3_fits_161 : decode cX3_fits 161 = .ok (.aload_n 0, 1) := by decide +kernel
theorem dX3_fits_162 : decode cX3_fits 162 = .ok (.getfield 34, 3) := by decide +kernel
theorem dX3_fits_165 : decode cX3_fits 165 = .ok (.if_icmp .ge 7, 3) := by decide +kernel
theorem dX3_fits_168 : decode cX3_fits 168 = .ok (.iconst 1, 1) := by decide +kernel
theorem dX3_fits_169 : decode cX3_fits 169 = .ok (.goto 4, 3) := by decide +kernel
theorem dX3_fits_172 : decode cX3_fits 172 = .ok (.iconst 0, 1) := by decide +kernel
theorem dX3_fits_173 : decode cX3_fits 173 = .ok (.ireturn, 1) := by decide +kernel
theorem dX3_fits_174 : decode cX3_fits 174 = .ok (.iload_n 2, 1) := by decide +kernel
theorem dX3_fits_175 : decode cX3_fits 175 = .ok (.invokestatic 61, 3) := by decide +kernel
theorem dX3_fits_178 : decode cX3_fits 178 = .ok (.ifCond .eq 14, 3) := by decide +kernel
theorem dX3_fits_181 : decode cX3_fits 181 = .ok (.iload_n 3, 1) := by decide +kernel
theorem dX3_fits_182 : decode cX3_fits 182 = .ok (.invokestatic 61, 3) := by decide +kernel
theorem dX3_fits_185 : decode cX3_fits 185 = .ok (.ifCond .eq 7, 3) := by decide +kernel
theorem dX3_fits_188 : decode cX3_fits 188 = .ok (.iconst 1, 1) := by decide +kernel
theorem dX3_fits_189 : decode cX3_fits 189 = .ok (.goto 4, 3) := by decide +kernel
theorem dX3_fits_192 : decode cX3_fits 192 = .ok (.iconst 0, 1) := by decide +kernel
theorem dX3_fits_193 : decode cX3_fits 193 = .ok (.ireturn, 1) := by decide +kernel
theorem dX3_fits_194 : decode cX3_fits 194 = .ok (.iload_n 2, 1) := by decide +kernel
theorem dX3_fits_195 : decode cX3_fits 195 = .ok (.invokestatic 61, 3) := by decide +kernel
theorem dX3_fits_198 : decode cX3_fits 198 = .ok (.ifCond .eq 15, 3) := by decide +kernel
theorem dX3_fits_201 : decode cX3_fits 201 = .ok (.aload_n 0, 1) := by decide +kernel
theorem dX3_fits_202 : decode cX3_fits 202 = .ok (.iload_n 3, 1) := by decide +kernel
theorem dX3_fits_203 : decode cX3_fits 203 = .ok (.invokevirtual 64, 3) := by decide +kernel
theorem dX3_fits_206 : decode cX3_fits 206 = .ok (.ifCond .eq 7, 3) := by decide +kernel
theorem dX3_fits_209 : decode cX3_fits 209 = .ok (.iconst 1, 1) := by decide +kernel
theorem dX3_fits_210 : decode cX3_fits 210 = .ok (.goto 4, 3) := by decide +kernel
theorem dX3_fits_213 : decode cX3_fits 213 = .ok (.iconst 0, 1) := by decide +kernel
theorem dX3_fits_214 : decode cX3_fits 214 = .ok (.ireturn, 1) := by decide +kernel
theorem dX3_fits_215 : decode cX3_fits 215 = .ok (.aload_n 0, 1) := by decide +kernel
theorem dX3_fits_216 : decode cX3_fits 216 = .ok (.iload_n 2, 1) := by decide +kernel
theorem dX3_fits_217 : decode cX3_fits 217 = .ok (.invokevirtual 64, 3) := by decide +kernel
theorem dX3_fits_220 : decode cX3_fits 220 = .ok (.ireturn, 1) := by decide +kernel
theorem dX3_fits_221 : decode cX3_fits 221 = .ok (.iload_n 2, 1) := by decide +kernel
theorem dX3_fits_222 : decode cX3_fits 222 = .ok (.ifCond .lt 14, 3) := by decide +kernel
theorem dX3_fits_225 : decode cX3_fits 225 = .ok (.iload_n 2, 1) := by decide +kernel
theorem dX3_fits_226 : decode cX3_fits 226 = .ok (.sipush 255, 3) := by decide +kernel
theorem dX3_fits_229 : decode cX3_fits 229 = .ok (.if_icmp .gt 7, 3) := by decide +kernel
theorem dX3_fits_232 : decode cX3_fits 232 = .ok (.iconst 1, 1) := by decide +kernel
theorem dX3_fits_233 : decode cX3_fits 233 = .ok (.goto 4, 3) := by decide +kernel
theorem dX3_fits_236 : decode cX3_fits 236 = .ok (.iconst 0, 1) := by decide +kernel
theorem dX3_fits_237 : decode cX3_fits 237 = .ok (.ireturn, 1) := by decide +kernel
theorem dX3_fits_238 : decode cX3_fits 238 = .ok (.iload_n 1, 1) := by decide +kernel
theorem dX3_fits_239 : decode cX3_fits 239 = .ok (.invokestatic 67, 3) := by decide +kernel
theorem dX3_fits_242 : decode cX3_fits 242 = .ok (.ifCond .eq 29, 3) := by decide +kernel
theorem dX3_fits_245 : decode cX3_fits 245 = .ok (.iload_n 2, 1) := by decide +kernel
theorem dX3_fits_246 : decode cX3_fits 246 = .ok (.invokestatic 61, 3) := by decide +kernel
theorem dX3_fits_249 : decode cX3_fits 249 = .ok (.ifCond .eq 22, 3) := by decide +kernel
theorem dX3_fits_252 : decode cX3_fits 252 = .ok (.iload_n 3, 1) := by decide +kernel
theorem dX3_fits_253 : decode cX3_fits 253 = .ok (.invokestatic 61, 3) := by decide +kernel
theorem dX3_fits_256 : decode cX3_fits 256 = .ok (.ifCond .eq 15, 3) := by decide +kernel
theorem dX3_fits_259 : decode cX3_fits 259 = .ok (.iload 4, 2) := by decide +kernel
theorem dX3_fits_261 : decode cX3_fits 261 = .ok (.invokestatic 61, 3) := by decide +kernel
theorem dX3_fits_264 : decode cX3_fits 264 = .ok (.ifCond .eq 7, 3) := by decide +kernel
theorem dX3_fits_267 : decode cX3_fits 267 = .ok (.iconst 1, 1) := by decide +kernel
theorem dX3_fits_268 : decode cX3_fits 268 = .ok (.goto 4, 3) := by decide +kernel
theorem dX3_fits_271 : decode cX3_fits 271 = .ok (.iconst 0, 1) := by decide +kernel
theorem dX3_fits_272 : decode cX3_fits 272 = .ok (.ireturn, 1) := by decide +kernel
theorem dX3_takesThreeRegisters_0 : decode cX3_takesThreeRegisters 0 = .ok (.iload_n 0, 1) := by decide +kernel
theorem dX3_takesThreeRegisters_1 : decode cX3_takesThreeRegisters 1 = .ok (.iconst 3, 1) := by decide +kernel
theorem dX3_takesThreeRegisters_2 : decode cX3_takesThreeRegisters 2 = .ok (.if_icmp .lt 9, 3) := by decide +kernel
theorem dX3_takesThreeRegisters_5 : decode cX3_takesThreeRegisters 5 = .ok (.iload_n 0, 1) := by decide +kernel
theorem dX3_takesThreeRegisters_6 : decode cX3_takesThreeRegisters 6 = .ok (.bipush 21, 2) := by decide +kernel
theorem dX3_takesThreeRegisters_8 : decode cX3_takesThreeRegisters 8 = .ok (.if_icmp .le 9, 3) := by decide +kernel
theorem dX3_takesThreeRegisters_11 : decode cX3_takesThreeRegisters 11 = .ok (.iload_n 0, 1) := by decide +kernel
theorem dX3_takesThreeRegisters_12 : decode cX3_takesThreeRegisters 12 = .ok (.bipush 24, 2) := by decide +kernel
theorem dX3_takesThreeRegisters_14 : decode cX3_takesThreeRegisters 14 = .ok (.if_icmp .ne 7, 3) := by decide +kernel
theorem dX3_takesThreeRegisters_17 : decode cX3_takesThreeRegisters 17 = .ok (.iconst 1, 1) := by decide +kernel
theorem dX3_takesThreeRegisters_18 : decode cX3_takesThreeRegisters 18 = .ok (.goto 4, 3) := by decide +kernel
theorem dX3_takesThreeRegisters_21 : decode cX3_takesThreeRegisters 21 = .ok (.iconst 0, 1) := by decide +kernel
theorem dX3_takesThreeRegisters_22 : decode cX3_takesThreeRegisters 22 = .ok (.ireturn, 1) := by decide +kernel
theorem dX3_isTarget_0 : decode cX3_isTarget 0 = .ok (.iload_n 1, 1) := by decide +kernel
theorem dX3_isTarget_1 : decode cX3_isTarget 1 = .ok (.aload_n 0, 1) := by decide +kernel
theorem dX3_isTarget_2 : decode cX3_isTarget 2 = .ok (.getfield 41, 3) := by decide +kernel
theorem dX3_isTarget_5 : decode cX3_isTarget 5 = .ok (.if_icmp .le 13, 3) := by decide +kernel
theorem dX3_isTarget_8 : decode cX3_isTarget 8 = .ok (.iload_n 1, 1) := by decide +kernel
theorem dX3_isTarget_9 : decode cX3_isTarget 9 = .ok (.bipush 60, 2) := by decide +kernel
theorem dX3_isTarget_11 : decode cX3_isTarget 11 = .ok (.if_icmp .gt 7, 3) := by decide +kernel
theorem dX3_isTarget_14 : decode cX3_isTarget 14 = .ok (.iconst 1, 1) := by decide +kernel
theorem dX3_isTarget_15 : decode cX3_isTarget 15 = .ok (.goto 4, 3) := by decide +kernel
theorem dX3_isTarget_18 : decode cX3_isTarget 18 = .ok (.iconst 0, 1) := by decide +kernel
theorem dX3_isTarget_19 : decode cX3_isTarget 19 = .ok (.ireturn, 1) := by decide +kernel
theorem dX3_wouldBeTooMany_0 : decode cX3_wouldBeTooMany 0 = .ok (.iload_n 1, 1) := by decide +kernel
theorem dX3_wouldBeTooMany_1 : decode cX3_wouldBeTooMany 1 = .ok (.iconst 5, 1) := by decide +kernel
theorem dX3_wouldBeTooMany_2 : decode cX3_wouldBeTooMany 2 = .ok (.if_icmp .ne 12, 3) := by decide +kernel
theorem dX3_wouldBeTooMany_5 : decode cX3_wouldBeTooMany 5 = .ok (.aload_n 0, 1) := by decide +kernel
theorem dX3_wouldBeTooMany_6 : decode cX3_wouldBeTooMany 6 = .ok (.getfield 44, 3) := by decide +kernel
theorem dX3_wouldBeTooMany_9 : decode cX3_wouldBeTooMany 9 = .ok (.bipush 6, 2) := by decide +kernel
theorem dX3_wouldBeTooMany_11 : decode cX3_wouldBeTooMany 11 = .ok (.if_icmp .ge 19, 3) := by decide +kernel
theorem dX3_wouldBeTooMany_14 : decode cX3_wouldBeTooMany 14 = .ok (.iload_n 1, 1) := by decide +kernel
theorem dX3_wouldBeTooMany_15 : decode cX3_wouldBeTooMany 15 = .ok (.invokestatic 58, 3) := by decide +kernel
theorem dX3_wouldBeTooMany_18 : decode cX3_wouldBeTooMany 18 = .ok (.ifCond .eq 16, 3) := by decide +kernel
theorem dX3_wouldBeTooMany_21 : decode cX3_wouldBeTooMany 21 = .ok (.aload_n 0, 1) := by decide +kernel
theorem dX3_wouldBeTooMany_22 : decode cX3_wouldBeTooMany 22 = .ok (.getfield 47, 3) := by decide +kernel
theorem dX3_wouldBeTooMany_25 : decode cX3_wouldBeTooMany 25 = .ok (.bipush 6, 2) := by decide +kernel
theorem dX3_wouldBeTooMany_27 : decode cX3_wouldBeTooMany 27 = .ok (.if_icmp .lt 7, 3) := by decide +kernel
theorem dX3_wouldBeTooMany_30 : decode cX3_wouldBeTooMany 30 = .ok (.iconst 1, 1) := by decide +kernel
theorem dX3_wouldBeTooMany_31 : decode cX3_wouldBeTooMany 31 = .ok (.goto 4, 3) := by decide +kernel
theorem dX3_wouldBeTooMany_34 : decode cX3_wouldBeTooMany 34 = .ok (.iconst 0, 1) := by decide +kernel
theorem dX3_wouldBeTooMany_35 : decode cX3_wouldBeTooMany 35 = .ok (.ireturn, 1) := by decide +kernel
theorem dX3_words_0 : decode cX3_words 0 = .ok (.iconst 1, 1) := by decide +kernel
theorem dX3_words_1 : decode cX3_words 1 = .ok (.aload_n 0, 1) := by decide +kernel
theorem dX3_words_2 : decode cX3_words 2 = .ok (.getfield 38, 3) := by decide +kernel
theorem dX3_words_5 : decode cX3_words 5 = .ok (.ishl, 1) := by decide +kernel
theorem dX3_words_6 : decode cX3_words 6 = .ok (.ireturn, 1) := by decide +kernel
theorem dX3_hasWord_0 : decode cX3_hasWord 0 = .ok (.iload_n 1, 1) := by decide +kernel
theorem dX3_hasWord_1 : decode cX3_hasWord 1 = .ok (.ifCond .lt 15, 3) := by decide +kernel
theorem dX3_hasWord_4 : decode cX3_hasWord 4 = .ok (.iload_n 1, 1) := by decide +kernel
theorem dX3_hasWord_5 : decode cX3_hasWord 5 = .ok (.aload_n 0, 1) := by decide +kernel
theorem dX3_hasWord_6 : decode cX3_hasWord 6 = .ok (.invokevirtual 70, 3) := by decide +kernel
theorem dX3_hasWord_9 : decode cX3_hasWord 9 = .ok (.if_icmp .ge 7, 3) := by decide +kernel
theorem dX3_hasWord_12 : decode cX3_hasWord 12 = .ok (.iconst 1, 1) := by decide +kernel
theorem dX3_hasWord_13 : decode cX3_hasWord 13 = .ok (.goto 4, 3) := by decide +kernel
theorem dX3_hasWord_16 : decode cX3_hasWord 16 = .ok (.iconst 0, 1) := by decide +kernel
theorem dX3_hasWord_17 : decode cX3_hasWord 17 = .ok (.ireturn, 1) := by decide +kernel
theorem dX3_inputIn_0 : decode cX3_inputIn 0 = .ok (.bipush 32, 2) := by decide +kernel
theorem dX3_inputIn_2 : decode cX3_inputIn 2 = .ok (.aload_n 0, 1) := by decide +kernel
theorem dX3_inputIn_3 : decode cX3_inputIn 3 = .ok (.getfield 9, 3) := by decide +kernel
theorem dX3_inputIn_6 : decode cX3_inputIn 6 = .ok (.iload_n 2, 1) := by decide +kernel
theorem dX3_inputIn_7 : decode cX3_inputIn 7 = .ok (.iaload, 1) := by decide +kernel
theorem dX3_inputIn_8 : decode cX3_inputIn 8 = .ok (.isub, 1) := by decide +kernel
theorem dX3_inputIn_9 : decode cX3_inputIn 9 = .ok (.istore_n 3, 1) := by decide +kernel
theorem dX3_inputIn_10 : decode cX3_inputIn 10 = .ok (.iload_n 1, 1) := by decide +kernel
theorem dX3_inputIn_11 : decode cX3_inputIn 11 = .ok (.aload_n 0, 1) := by decide +kernel
theorem dX3_inputIn_12 : decode cX3_inputIn 12 = .ok (.getfield 38, 3) := by decide +kernel
theorem dX3_inputIn_15 : decode cX3_inputIn 15 = .ok (.aload_n 0, 1) := by decide +kernel
theorem dX3_inputIn_16 : decode cX3_inputIn 16 = .ok (.getfield 15, 3) := by decide +kernel
theorem dX3_inputIn_19 : decode cX3_inputIn 19 = .ok (.iload_n 2, 1) := by decide +kernel
theorem dX3_inputIn_20 : decode cX3_inputIn 20 = .ok (.iaload, 1) := by decide +kernel
theorem dX3_inputIn_21 : decode cX3_inputIn 21 = .ok (.isub, 1) := by decide +kernel
theorem dX3_inputIn_22 : decode cX3_inputIn 22 = .ok (.ishr, 1) := by decide +kernel
theorem dX3_inputIn_23 : decode cX3_inputIn 23 = .ok (.iload_n 3, 1) := by decide +kernel
theorem dX3_inputIn_24 : decode cX3_inputIn 24 = .ok (.ishl, 1) := by decide +kernel
theorem dX3_inputIn_25 : decode cX3_inputIn 25 = .ok (.istore 4, 2) := by decide +kernel
theorem dX3_inputIn_27 : decode cX3_inputIn 27 = .ok (.aload_n 0, 1) := by decide +kernel
theorem dX3_inputIn_28 : decode cX3_inputIn 28 = .ok (.getfield 18, 3) := by decide +kernel
theorem dX3_inputIn_31 : decode cX3_inputIn 31 = .ok (.iload_n 2, 1) := by decide +kernel
theorem dX3_inputIn_32 : decode cX3_inputIn 32 = .ok (.baload, 1) := by decide +kernel
theorem dX3_inputIn_33 : decode cX3_inputIn 33 = .ok (.ifCond .eq 10, 3) := by decide +kernel
theorem dX3_inputIn_36 : decode cX3_inputIn 36 = .ok (.iload 4, 2) := by decide +kernel
theorem dX3_inputIn_38 : decode cX3_inputIn 38 = .ok (.iload_n 3, 1) := by decide +kernel
theorem dX3_inputIn_39 : decode cX3_inputIn 39 = .ok (.ishr, 1) := by decide +kernel
theorem dX3_inputIn_40 : decode cX3_inputIn 40 = .ok (.goto 7, 3) := by decide +kernel
theorem dX3_inputIn_43 : decode cX3_inputIn 43 = .ok (.iload 4, 2) := by decide +kernel
theorem dX3_inputIn_45 : decode cX3_inputIn 45 = .ok (.iload_n 3, 1) := by decide +kernel
theorem dX3_inputIn_46 : decode cX3_inputIn 46 = .ok (.iushr, 1) := by decide +kernel
theorem dX3_inputIn_47 : decode cX3_inputIn 47 = .ok (.ireturn, 1) := by decide +kernel
