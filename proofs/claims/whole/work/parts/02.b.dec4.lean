theorem dX4_init_0 : decode cX4_init 0 = .ok (.aload_n 0, 1) := by decide +kernel
theorem dX4_init_1 : decode cX4_init 1 = .ok (.invokespecial 3, 3) := by decide +kernel
theorem dX4_init_4 : decode cX4_init 4 = .ok (.aload_n 0, 1) := by decide +kernel
theorem dX4_init_5 : decode cX4_init 5 = .ok (.new 9, 3) := by decide +kernel
theorem dX4_init_8 : decode cX4_init 8 = .ok (.dup, 1) := by decide +kernel
theorem dX4_init_9 : decode cX4_init 9 = .ok (.invokespecial 11, 3) := by decide +kernel
theorem dX4_init_12 : decode cX4_init 12 = .ok (.putfield 12, 3) := by decide +kernel
theorem dX4_init_15 : decode cX4_init 15 = .ok (.aload_n 0, 1) := by decide +kernel
theorem dX4_init_16 : decode cX4_init 16 = .ok (.new 16, 3) := by decide +kernel
theorem dX4_init_19 : decode cX4_init 19 = .ok (.dup, 1) := by decide +kernel
theorem dX4_init_20 : decode cX4_init 20 = .ok (.invokespecial 18, 3) := by decide +kernel
theorem dX4_init_23 : decode cX4_init 23 = .ok (.putfield 19, 3) := by decide +kernel
theorem dX4_init_26 : decode cX4_init 26 = .ok (.aload_n 0, 1) := by decide +kernel
theorem dX4_init_27 : decode cX4_init 27 = .ok (.new 23, 3) := by decide +kernel
theorem dX4_init_30 : decode cX4_init 30 = .ok (.dup, 1) := by decide +kernel
theorem dX4_init_31 : decode cX4_init 31 = .ok (.invokespecial 25, 3) := by decide +kernel
theorem dX4_init_34 : decode cX4_init 34 = .ok (.putfield 26, 3) := by decide +kernel
theorem dX4_init_37 : decode cX4_init 37 = .ok (.aload_n 0, 1) := by decide +kernel
theorem dX4_init_38 : decode cX4_init 38 = .ok (.new 23, 3) := by decide +kernel
theorem dX4_init_41 : decode cX4_init 41 = .ok (.dup, 1) := by decide +kernel
theorem dX4_init_42 : decode cX4_init 42 = .ok (.invokespecial 25, 3) := by decide +kernel
theorem dX4_init_45 : decode cX4_init 45 = .ok (.putfield 30, 3) := by decide +kernel
theorem dX4_init_48 : decode cX4_init 48 = .ok (.return_, 1) := by decide +kernel
theorem dX4_input_0 : decode cX4_input 0 = .ok (.aload_n 0, 1) := by decide +kernel
theorem dX4_input_1 : decode cX4_input 1 = .ok (.getfield 12, 3) := by decide +kernel
theorem dX4_input_4 : decode cX4_input 4 = .ok (.iload_n 1, 1) := by decide +kernel
theorem dX4_input_5 : decode cX4_input 5 = .ok (.iload_n 2, 1) := by decide +kernel
theorem dX4_input_6 : decode cX4_input 6 = .ok (.invokevirtual 33, 3) := by decide +kernel
theorem dX4_input_9 : decode cX4_input 9 = .ok (.istore_n 3, 1) := by decide +kernel
theorem dX4_input_10 : decode cX4_input 10 = .ok (.iload_n 3, 1) := by decide +kernel
theorem dX4_input_11 : decode cX4_input 11 = .ok (.iconst (-1), 1) := by decide +kernel
theorem dX4_input_12 : decode cX4_input 12 = .ok (.if_icmp .eq 7, 3) := by decide +kernel
theorem dX4_input_15 : decode cX4_input 15 = .ok (.aload_n 0, 1) := by decide +kernel
theorem dX4_input_16 : decode cX4_input 16 = .ok (.invokevirtual 37, 3) := by decide +kernel
theorem dX4_input_19 : decode cX4_input 19 = .ok (.iload_n 3, 1) := by decide +kernel
theorem dX4_input_20 : decode cX4_input 20 = .ok (.ireturn, 1) := by decide +kernel
theorem dX4_tell_0 : decode cX4_tell 0 = .ok (.aload_n 0, 1) := by decide +kernel
theorem dX4_tell_1 : decode cX4_tell 1 = .ok (.getfield 12, 3) := by decide +kernel
theorem dX4_tell_4 : decode cX4_tell 4 = .ok (.iload_n 1, 1) := by decide +kernel
theorem dX4_tell_5 : decode cX4_tell 5 = .ok (.iload_n 2, 1) := by decide +kernel
theorem dX4_tell_6 : decode cX4_tell 6 = .ok (.iload_n 3, 1) := by decide +kernel
theorem dX4_tell_7 : decode cX4_tell 7 = .ok (.iload 4, 2) := by decide +kernel
theorem dX4_tell_9 : decode cX4_tell 9 = .ok (.invokevirtual 40, 3) := by decide +kernel
theorem dX4_tell_12 : decode cX4_tell 12 = .ok (.istore 5, 2) := by decide +kernel
theorem dX4_tell_14 : decode cX4_tell 14 = .ok (.iload 5, 2) := by decide +kernel
theorem dX4_tell_16 : decode cX4_tell 16 = .ok (.iconst (-1), 1) := by decide +kernel
theorem dX4_tell_17 : decode cX4_tell 17 = .ok (.if_icmp .eq 7, 3) := by decide +kernel
theorem dX4_tell_20 : decode cX4_tell 20 = .ok (.aload_n 0, 1) := by decide +kernel
theorem dX4_tell_21 : decode cX4_tell 21 = .ok (.invokevirtual 37, 3) := by decide +kernel
theorem dX4_tell_24 : decode cX4_tell 24 = .ok (.iload 5, 2) := by decide +kernel
theorem dX4_tell_26 : decode cX4_tell 26 = .ok (.ireturn, 1) := by decide +kernel
theorem dX4_clear_0 : decode cX4_clear 0 = .ok (.aload_n 0, 1) := by decide +kernel
theorem dX4_clear_1 : decode cX4_clear 1 = .ok (.getfield 12, 3) := by decide +kernel
theorem dX4_clear_4 : decode cX4_clear 4 = .ok (.getfield 44, 3) := by decide +kernel
theorem dX4_clear_7 : decode cX4_clear 7 = .ok (.istore_n 1, 1) := by decide +kernel
theorem dX4_clear_8 : decode cX4_clear 8 = .ok (.aload_n 0, 1) := by decide +kernel
theorem dX4_clear_9 : decode cX4_clear 9 = .ok (.getfield 12, 3) := by decide +kernel
theorem dX4_clear_12 : decode cX4_clear 12 = .ok (.invokevirtual 48, 3) := by decide +kernel
theorem dX4_clear_15 : decode cX4_clear 15 = .ok (.aload_n 0, 1) := by decide +kernel
theorem dX4_clear_16 : decode cX4_clear 16 = .ok (.invokevirtual 37, 3) := by decide +kernel
theorem dX4_clear_19 : decode cX4_clear 19 = .ok (.aload_n 0, 1) := by decide +kernel
theorem dX4_clear_20 : decode cX4_clear 20 = .ok (.iconst 0, 1) := by decide +kernel
theorem dX4_clear_21 : decode cX4_clear 21 = .ok (.putfield 51, 3) := by decide +kernel
theorem dX4_clear_24 : decode cX4_clear 24 = .ok (.iload_n 1, 1) := by decide +kernel
theorem dX4_clear_25 : decode cX4_clear 25 = .ok (.ireturn, 1) := by decide +kernel
theorem dX4_explore_0 : decode cX4_explore 0 = .ok (.aload_n 0, 1) := by decide +kernel
theorem dX4_explore_1 : decode cX4_explore 1 = .ok (.getfield 19, 3) := by decide +kernel
theorem dX4_explore_4 : decode cX4_explore 4 = .ok (.invokevirtual 55, 3) := by decide +kernel
theorem dX4_explore_7 : decode cX4_explore 7 = .ok (.ifCond .ne 18, 3) := by decide +kernel
theorem dX4_explore_10 : decode cX4_explore 10 = .ok (.aload_n 0, 1) := by decide +kernel
theorem dX4_explore_11 : decode cX4_explore 11 = .ok (.getfield 19, 3) := by decide +kernel
theorem dX4_explore_14 : decode cX4_explore 14 = .ok (.aload_n 0, 1) := by decide +kernel
theorem dX4_explore_15 : decode cX4_explore 15 = .ok (.getfield 12, 3) := by decide +kernel
theorem dX4_explore_18 : decode cX4_explore 18 = .ok (.aload_n 0, 1) := by decide +kernel
theorem dX4_explore_19 : decode cX4_explore 19 = .ok (.getfield 26, 3) := by decide +kernel
theorem dX4_explore_22 : decode cX4_explore 22 = .ok (.invokevirtual 59, 3) := by decide +kernel
theorem dX4_explore_25 : decode cX4_explore 25 = .ok (.aload_n 0, 1) := by decide +kernel
theorem dX4_explore_26 : decode cX4_explore 26 = .ok (.getfield 19, 3) := by decide +kernel
theorem dX4_explore_29 : decode cX4_explore 29 = .ok (.aload_n 0, 1) := by decide +kernel
theorem dX4_explore_30 : decode cX4_explore 30 = .ok (.getfield 19, 3) := by decide +kernel
theorem dX4_explore_33 : decode cX4_explore 33 = .ok (.getfield 63, 3) := by decide +kernel
theorem dX4_explore_36 : decode cX4_explore 36 = .ok (.invokevirtual 64, 3) := by decide +kernel
theorem dX4_explore_39 : decode cX4_explore 39 = .ok (.ireturn, 1) := by decide +kernel
theorem dX4_path_0 : decode cX4_path 0 = .ok (.aload_n 0, 1) := by decide +kernel
theorem dX4_path_1 : decode cX4_path 1 = .ok (.getfield 19, 3) := by decide +kernel
theorem dX4_path_4 : decode cX4_path 4 = .ok (.iload_n 1, 1) := by decide +kernel
theorem dX4_path_5 : decode cX4_path 5 = .ok (.invokevirtual 68, 3) := by decide +kernel
theorem dX4_path_8 : decode cX4_path 8 = .ok (.astore_n 3, 1) := by decide +kernel
theorem dX4_path_9 : decode cX4_path 9 = .ok (.aload_n 3, 1) := by decide +kernel
theorem dX4_path_10 : decode cX4_path 10 = .ok (.ifnonnull 5, 3) := by decide +kernel
theorem dX4_path_13 : decode cX4_path 13 = .ok (.iconst (-1), 1) := by decide +kernel
theorem dX4_path_14 : decode cX4_path 14 = .ok (.ireturn, 1) := by decide +kernel
theorem dX4_path_15 : decode cX4_path 15 = .ok (.iload_n 2, 1) := by decide +kernel
theorem dX4_path_16 : decode cX4_path 16 = .ok (.tableswitch 81 0 5 #[40, 45, 50, 58, 63, 68], 40) := by decide +kernel
theorem dX4_path_56 : decode cX4_path 56 = .ok (.aload_n 3, 1) := by decide +kernel
theorem dX4_path_57 : decode cX4_path 57 = .ok (.getfield 72, 3) := by decide +kernel
theorem dX4_path_60 : decode cX4_path 60 = .ok (.ireturn, 1) := by decide +kernel
theorem dX4_path_61 : decode cX4_path 61 = .ok (.aload_n 3, 1) := by decide +kernel
theorem dX4_path_62 : decode cX4_path 62 = .ok (.getfield 77, 3) := by decide +kernel
theorem dX4_path_65 : decode cX4_path 65 = .ok (.ireturn, 1) := by decide +kernel
theorem dX4_path_66 : decode cX4_path 66 = .ok (.aload_n 3, 1) := by decide +kernel
theorem dX4_path_67 : decode cX4_path 67 = .ok (.getfield 80, 3) := by decide +kernel
theorem dX4_path_70 : decode cX4_path 70 = .ok (.invokestatic 84, 3) := by decide +kernel
theorem dX4_path_73 : decode cX4_path 73 = .ok (.ireturn, 1) := by decide +kernel
theorem dX4_path_74 : decode cX4_path 74 = .ok (.aload_n 3, 1) := by decide +kernel
theorem dX4_path_75 : decode cX4_path 75 = .ok (.getfield 90, 3) := by decide +kernel
theorem dX4_path_78 : decode cX4_path 78 = .ok (.ireturn, 1) := by decide +kernel
theorem dX4_path_79 : decode cX4_path 79 = .ok (.aload_n 3, 1) := by decide +kernel
theorem dX4_path_80 : decode cX4_path 80 = .ok (.getfield 93, 3) := by decide +kernel
theorem dX4_path_83 : decode cX4_path 83 = .ok (.ireturn, 1) := by decide +kernel
theorem dX4_path_84 : decode cX4_path 84 = .ok (.aload_n 3, 1) := by decide +kernel
theorem dX4_path_85 : decode cX4_path 85 = .ok (.getfield 96, 3) := by decide +kernel
theorem dX4_path_88 : decode cX4_path 88 = .ok (.ifCond .eq 7, 3) := by decide +kernel
theorem dX4_path_91 : decode cX4_path 91 = .ok (.iconst 1, 1) := by decide +kernel
theorem dX4_path_92 : decode cX4_path 92 = .ok (.goto 4, 3) := by decide +kernel
theorem dX4_path_95 : decode cX4_path 95 = .ok (.iconst 0, 1) := by decide +kernel
theorem dX4_path_96 : decode cX4_path 96 = .ok (.ireturn, 1) := by decide +kernel
theorem dX4_path_97 : decode cX4_path 97 = .ok (.iconst 0, 1) := by decide +kernel
theorem dX4_path_98 : decode cX4_path 98 = .ok (.ireturn, 1) := by decide +kernel
theorem dX4_decision_0 : decode cX4_decision 0 = .ok (.aload_n 0, 1) := by decide +kernel
theorem dX4_decision_1 : decode cX4_decision 1 = .ok (.getfield 19, 3) := by decide +kernel
theorem dX4_decision_4 : decode cX4_decision 4 = .ok (.iload_n 1, 1) := by decide +kernel
theorem dX4_decision_5 : decode cX4_decision 5 = .ok (.invokevirtual 68, 3) := by decide +kernel
theorem dX4_decision_8 : decode cX4_decision 8 = .ok (.astore_n 3, 1) := by decide +kernel
theorem dX4_decision_9 : decode cX4_decision 9 = .ok (.aload_n 3, 1) := by decide +kernel
theorem dX4_decision_10 : decode cX4_decision 10 = .ok (.ifnonnull 5, 3) := by decide +kernel
theorem dX4_decision_13 : decode cX4_decision 13 = .ok (.iconst (-1), 1) := by decide +kernel
theorem dX4_decision_14 : decode cX4_decision 14 = .ok (.ireturn, 1) := by decide +kernel
theorem dX4_decision_15 : decode cX4_decision 15 = .ok (.aload_n 3, 1) := by decide +kernel
theorem dX4_decision_16 : decode cX4_decision 16 = .ok (.getfield 80, 3) := by decide +kernel
theorem dX4_decision_19 : decode cX4_decision 19 = .ok (.iload_n 2, 1) := by decide +kernel
theorem dX4_decision_20 : decode cX4_decision 20 = .ok (.invokestatic 99, 3) := by decide +kernel
theorem dX4_decision_23 : decode cX4_decision 23 = .ok (.istore 4, 2) := by decide +kernel
theorem dX4_decision_25 : decode cX4_decision 25 = .ok (.iload 4, 2) := by decide +kernel
theorem dX4_decision_27 : decode cX4_decision 27 = .ok (.iconst (-1), 1) := by decide +kernel
theorem dX4_decision_28 : decode cX4_decision 28 = .ok (.if_icmp .ne 5, 3) := by decide +kernel
theorem dX4_decision_31 : decode cX4_decision 31 = .ok (.iconst (-1), 1) := by decide +kernel
theorem dX4_decision_32 : decode cX4_decision 32 = .ok (.ireturn, 1) := by decide +kernel
theorem dX4_decision_33 : decode cX4_decision 33 = .ok (.iconst 2, 1) := by decide +kernel
theorem dX4_decision_34 : decode cX4_decision 34 = .ok (.iload 4, 2) := by decide +kernel
theorem dX4_decision_36 : decode cX4_decision 36 = .ok (.imul, 1) := by decide +kernel
theorem dX4_decision_37 : decode cX4_decision 37 = .ok (.aload_n 3, 1) := by decide +kernel
theorem dX4_decision_38 : decode cX4_decision 38 = .ok (.getfield 103, 3) := by decide +kernel
theorem dX4_decision_41 : decode cX4_decision 41 = .ok (.iload 4, 2) := by decide +kernel
theorem dX4_decision_43 : decode cX4_decision 43 = .ok (.invokestatic 106, 3) := by decide +kernel
theorem dX4_decision_46 : decode cX4_decision 46 = .ok (.ifCond .eq 7, 3) := by decide +kernel
theorem dX4_decision_49 : decode cX4_decision 49 = .ok (.iconst 1, 1) := by decide +kernel
theorem dX4_decision_50 : decode cX4_decision 50 = .ok (.goto 4, 3) := by decide +kernel
theorem dX4_decision_53 : decode cX4_decision 53 = .ok (.iconst 0, 1) := by decide +kernel
theorem dX4_decision_54 : decode cX4_decision 54 = .ok (.iadd, 1) := by decide +kernel
theorem dX4_decision_55 : decode cX4_decision 55 = .ok (.ireturn, 1) := by decide +kernel
theorem dX4_holds_0 : decode cX4_holds 0 = .ok (.aload_n 0, 1) := by decide +kernel
theorem dX4_holds_1 : decode cX4_holds 1 = .ok (.getfield 19, 3) := by decide +kernel
theorem dX4_holds_4 : decode cX4_holds 4 = .ok (.iload_n 1, 1) := by decide +kernel
theorem dX4_holds_5 : decode cX4_holds 5 = .ok (.invokevirtual 68, 3) := by decide +kernel
theorem dX4_holds_8 : decode cX4_holds 8 = .ok (.astore_n 3, 1) := by decide +kernel
theorem dX4_holds_9 : decode cX4_holds 9 = .ok (.aload_n 3, 1) := by decide +kernel
theorem dX4_holds_10 : decode cX4_holds 10 = .ok (.ifnull 14, 3) := by decide +kernel
theorem dX4_holds_13 : decode cX4_holds 13 = .ok (.aload_n 0, 1) := by decide +kernel
theorem dX4_holds_14 : decode cX4_holds 14 = .ok (.getfield 12, 3) := by decide +kernel
theorem dX4_holds_17 : decode cX4_holds 17 = .ok (.iload_n 2, 1) := by decide +kernel
theorem dX4_holds_18 : decode cX4_holds 18 = .ok (.invokevirtual 110, 3) := by decide +kernel
theorem dX4_holds_21 : decode cX4_holds 21 = .ok (.ifCond .ne 5, 3) := by decide +kernel
theorem dX4_holds_24 : decode cX4_holds 24 = .ok (.iconst (-1), 1) := by decide +kernel
theorem dX4_holds_25 : decode cX4_holds 25 = .ok (.ireturn, 1) := by decide +kernel
theorem dX4_holds_26 : decode cX4_holds 26 = .ok (.aload_n 0, 1) := by decide +kernel
theorem dX4_holds_27 : decode cX4_holds 27 = .ok (.getfield 19, 3) := by decide +kernel
theorem dX4_holds_30 : decode cX4_holds 30 = .ok (.aload_n 3, 1) := by decide +kernel
theorem dX4_holds_31 : decode cX4_holds 31 = .ok (.iload_n 2, 1) := by decide +kernel
theorem dX4_holds_32 : decode cX4_holds 32 = .ok (.invokevirtual 114, 3) := by decide +kernel
theorem dX4_holds_35 : decode cX4_holds 35 = .ok (.ifCond .eq 7, 3) := by decide +kernel
theorem dX4_holds_38 : decode cX4_holds 38 = .ok (.iconst 1, 1) := by decide +kernel
theorem dX4_holds_39 : decode cX4_holds 39 = .ok (.goto 4, 3) := by decide +kernel
theorem dX4_holds_42 : decode cX4_holds 42 = .ok (.iconst 0, 1) := by decide +kernel
theorem dX4_holds_43 : decode cX4_holds 43 = .ok (.ireturn, 1) := by decide +kernel
theorem dX4_value_0 : decode cX4_value 0 = .ok (.aload_n 0, 1) := by decide +kernel
theorem dX4_value_1 : decode cX4_value 1 = .ok (.getfield 19, 3) := by decide +kernel
theorem dX4_value_4 : decode cX4_value 4 = .ok (.iload_n 1, 1) := by decide +kernel
theorem dX4_value_5 : decode cX4_value 5 = .ok (.invokevirtual 68, 3) := by decide +kernel
theorem dX4_value_8 : decode cX4_value 8 = .ok (.astore_n 3, 1) := by decide +kernel
theorem dX4_value_9 : decode cX4_value 9 = .ok (.aload_n 3, 1) := by decide +kernel
theorem dX4_value_10 : decode cX4_value 10 = .ok (.ifnull 14, 3) := by decide +kernel
theorem dX4_value_13 : decode cX4_value 13 = .ok (.aload_n 0, 1) := by decide +kernel
theorem dX4_value_14 : decode cX4_value 14 = .ok (.getfield 12, 3) := by decide +kernel
theorem dX4_value_17 : decode cX4_value 17 = .ok (.iload_n 2, 1) := by decide +kernel
theorem dX4_value_18 : decode cX4_value 18 = .ok (.invokevirtual 110, 3) := by decide +kernel
theorem dX4_value_21 : decode cX4_value 21 = .ok (.ifCond .ne 5, 3) := by decide +kernel
theorem dX4_value_24 : decode cX4_value 24 = .ok (.iconst 0, 1) := by decide +kernel
theorem dX4_value_25 : decode cX4_value 25 = .ok (.ireturn, 1) := by decide +kernel
theorem dX4_value_26 : decode cX4_value 26 = .ok (.aload_n 0, 1) := by decide +kernel
theorem dX4_value_27 : decode cX4_value 27 = .ok (.getfield 26, 3) := by decide +kernel
theorem dX4_value_30 : decode cX4_value 30 = .ok (.aload_n 0, 1) := by decide +kernel
theorem dX4_value_31 : decode cX4_value 31 = .ok (.getfield 12, 3) := by decide +kernel
theorem dX4_value_34 : decode cX4_value 34 = .ok (.iload_n 2, 1) := by decide +kernel
theorem dX4_value_35 : decode cX4_value 35 = .ok (.aload_n 3, 1) := by decide +kernel
theorem dX4_value_36 : decode cX4_value 36 = .ok (.invokevirtual 118, 3) := by decide +kernel
theorem dX4_value_39 : decode cX4_value 39 = .ok (.aload_n 0, 1) := by decide +kernel
theorem dX4_value_40 : decode cX4_value 40 = .ok (.getfield 26, 3) := by decide +kernel
theorem dX4_value_43 : decode cX4_value 43 = .ok (.getfield 122, 3) := by decide +kernel
theorem dX4_value_46 : decode cX4_value 46 = .ok (.ireturn, 1) := by decide +kernel
theorem dX4_find_0 : decode cX4_find 0 = .ok (.aload_n 0, 1) := by decide +kernel
theorem dX4_find_1 : decode cX4_find 1 = .ok (.getfield 19, 3) := by decide +kernel
theorem dX4_find_4 : decode cX4_find 4 = .ok (.iload_n 1, 1) := by decide +kernel
theorem dX4_find_5 : decode cX4_find 5 = .ok (.invokevirtual 68, 3) := by decide +kernel
theorem dX4_find_8 : decode cX4_find 8 = .ok (.astore 4, 2) := by decide +kernel
theorem dX4_find_10 : decode cX4_find 10 = .ok (.aload 4, 2) := by decide +kernel
theorem dX4_find_12 : decode cX4_find 12 = .ok (.ifnonnull 5, 3) := by decide +kernel
theorem dX4_find_15 : decode cX4_find 15 = .ok (.iconst (-1), 1) := by decide +kernel
theorem dX4_find_16 : decode cX4_find 16 = .ok (.ireturn, 1) := by decide +kernel
theorem dX4_find_17 : decode cX4_find 17 = .ok (.aload_n 0, 1) := by decide +kernel
theorem dX4_find_18 : decode cX4_find 18 = .ok (.getfield 19, 3) := by decide +kernel
theorem dX4_find_21 : decode cX4_find 21 = .ok (.aload 4, 2) := by decide +kernel
theorem dX4_find_23 : decode cX4_find 23 = .ok (.iload_n 2, 1) := by decide +kernel
theorem dX4_find_24 : decode cX4_find 24 = .ok (.iload_n 3, 1) := by decide +kernel
theorem dX4_find_25 : decode cX4_find 25 = .ok (.aload_n 0, 1) := by decide +kernel
theorem dX4_find_26 : decode cX4_find 26 = .ok (.getfield 12, 3) := by decide +kernel
theorem dX4_find_29 : decode cX4_find 29 = .ok (.invokevirtual 123, 3) := by decide +kernel
theorem dX4_find_32 : decode cX4_find 32 = .ok (.invokevirtual 127, 3) := by decide +kernel
theorem dX4_find_35 : decode cX4_find 35 = .ok (.ireturn, 1) := by decide +kernel
theorem dX4_run_0 : decode cX4_run 0 = .ok (.aload_n 0, 1) := by decide +kernel
theorem dX4_run_1 : decode cX4_run 1 = .ok (.getfield 12, 3) := by decide +kernel
theorem dX4_run_4 : decode cX4_run 4 = .ok (.iload_n 1, 1) := by decide +kernel
theorem dX4_run_5 : decode cX4_run 5 = .ok (.invokevirtual 110, 3) := by decide +kernel
theorem dX4_run_8 : decode cX4_run 8 = .ok (.ifCond .ne 5, 3) := by decide +kernel
theorem dX4_run_11 : decode cX4_run 11 = .ok (.iconst (-1), 1) := by decide +kernel
theorem dX4_run_12 : decode cX4_run 12 = .ok (.ireturn, 1) := by decide +kernel
theorem dX4_run_13 : decode cX4_run 13 = .ok (.aload_n 0, 1) := by decide +kernel
theorem dX4_run_14 : decode cX4_run 14 = .ok (.getfield 30, 3) := by decide +kernel
theorem dX4_run_17 : decode cX4_run 17 = .ok (.aload_n 0, 1) := by decide +kernel
theorem dX4_run_18 : decode cX4_run 18 = .ok (.getfield 12, 3) := by decide +kernel
theorem dX4_run_21 : decode cX4_run 21 = .ok (.iload_n 1, 1) := by decide +kernel
theorem dX4_run_22 : decode cX4_run 22 = .ok (.aconst_null, 1) := by decide +kernel
theorem dX4_run_23 : decode cX4_run 23 = .ok (.invokevirtual 118, 3) := by decide +kernel
theorem dX4_run_26 : decode cX4_run 26 = .ok (.aload_n 0, 1) := by decide +kernel
theorem dX4_run_27 : decode cX4_run 27 = .ok (.iconst 1, 1) := by decide +kernel
theorem dX4_run_28 : decode cX4_run 28 = .ok (.putfield 51, 3) := by decide +kernel
theorem dX4_run_31 : decode cX4_run 31 = .ok (.aload_n 0, 1) := by decide +kernel
theorem dX4_run_32 : decode cX4_run 32 = .ok (.iconst 0, 1) := by decide +kernel
theorem dX4_run_33 : decode cX4_run 33 = .ok (.putfield 131, 3) := by decide +kernel
theorem dX4_run_36 : decode cX4_run 36 = .ok (.aload_n 0, 1) := by decide +kernel
theorem dX4_run_37 : decode cX4_run 37 = .ok (.getfield 30, 3) := by decide +kernel
theorem dX4_run_40 : decode cX4_run 40 = .ok (.getfield 134, 3) := by decide +kernel
theorem dX4_run_43 : decode cX4_run 43 = .ok (.ireturn, 1) := by decide +kernel
theorem dX4_ran_0 : decode cX4_ran 0 = .ok (.aload_n 0, 1) := by decide +kernel
theorem dX4_ran_1 : decode cX4_ran 1 = .ok (.getfield 51, 3) := by decide +kernel
theorem dX4_ran_4 : decode cX4_ran 4 = .ok (.ifCond .ne 5, 3) := by decide +kernel
theorem dX4_ran_7 : decode cX4_ran 7 = .ok (.iconst (-1), 1) := by decide +kernel
theorem dX4_ran_8 : decode cX4_ran 8 = .ok (.ireturn, 1) := by decide +kernel
theorem dX4_ran_9 : decode cX4_ran 9 = .ok (.iload_n 1, 1) := by decide +kernel
theorem dX4_ran_10 : decode cX4_ran 10 = .ok (.tableswitch 110 0 5 #[38, 46, 54, 62, 73, 84], 38) := by decide +kernel
theorem dX4_ran_48 : decode cX4_ran 48 = .ok (.aload_n 0, 1) := by decide +kernel
theorem dX4_ran_49 : decode cX4_ran 49 = .ok (.getfield 30, 3) := by decide +kernel
theorem dX4_ran_52 : decode cX4_ran 52 = .ok (.getfield 134, 3) := by decide +kernel
theorem dX4_ran_55 : decode cX4_ran 55 = .ok (.ireturn, 1) := by decide +kernel
theorem dX4_ran_56 : decode cX4_ran 56 = .ok (.aload_n 0, 1) := by decide +kernel
theorem dX4_ran_57 : decode cX4_ran 57 = .ok (.getfield 30, 3) := by decide +kernel
theorem dX4_ran_60 : decode cX4_ran 60 = .ok (.getfield 135, 3) := by decide +kernel
theorem dX4_ran_63 : decode cX4_ran 63 = .ok (.ireturn, 1) := by decide +kernel
theorem dX4_ran_64 : decode cX4_ran 64 = .ok (.aload_n 0, 1) := by decide +kernel
theorem dX4_ran_65 : decode cX4_ran 65 = .ok (.getfield 30, 3) := by decide +kernel
theorem dX4_ran_68 : decode cX4_ran 68 = .ok (.getfield 122, 3) := by decide +kernel
theorem dX4_ran_71 : decode cX4_ran 71 = .ok (.ireturn, 1) := by decide +kernel
theorem dX4_ran_72 : decode cX4_ran 72 = .ok (.aload_n 0, 1) := by decide +kernel
theorem dX4_ran_73 : decode cX4_ran 73 = .ok (.getfield 30, 3) := by decide +kernel
theorem dX4_ran_76 : decode cX4_ran 76 = .ok (.getfield 138, 3) := by decide +kernel
theorem dX4_ran_79 : decode cX4_ran 79 = .ok (.invokestatic 84, 3) := by decide +kernel
theorem dX4_ran_82 : decode cX4_ran 82 = .ok (.ireturn, 1) := by decide +kernel
theorem dX4_ran_83 : decode cX4_ran 83 = .ok (.aload_n 0, 1) := by decide +kernel
theorem dX4_ran_84 : decode cX4_ran 84 = .ok (.getfield 30, 3) := by decide +kernel
theorem dX4_ran_87 : decode cX4_ran 87 = .ok (.getfield 141, 3) := by decide +kernel
theorem dX4_ran_90 : decode cX4_ran 90 = .ok (.invokestatic 84, 3) := by decide +kernel
theorem dX4_ran_93 : decode cX4_ran 93 = .ok (.ireturn, 1) := by decide +kernel
theorem dX4_ran_94 : decode cX4_ran 94 = .ok (.aload_n 0, 1) := by decide +kernel
theorem dX4_ran_95 : decode cX4_ran 95 = .ok (.getfield 131, 3) := by decide +kernel
theorem dX4_ran_98 : decode cX4_ran 98 = .ok (.ifCond .eq 7, 3) := by decide +kernel
theorem dX4_ran_101 : decode cX4_ran 101 = .ok (.iconst (-1), 1) := by decide +kernel
theorem dX4_ran_102 : decode cX4_ran 102 = .ok (.goto 17, 3) := by decide +kernel
theorem dX4_ran_105 : decode cX4_ran 105 = .ok (.aload_n 0, 1) := by decide +kernel
theorem dX4_ran_106 : decode cX4_ran 106 = .ok (.getfield 19, 3) := by decide +kernel
theorem dX4_ran_109 : decode cX4_ran 109 = .ok (.aload_n 0, 1) := by decide +kernel
theorem dX4_ran_110 : decode cX4_ran 110 = .ok (.getfield 30, 3) := by decide +kernel
theorem dX4_ran_113 : decode cX4_ran 113 = .ok (.getfield 142, 3) := by decide +kernel
theorem dX4_ran_116 : decode cX4_ran 116 = .ok (.invokevirtual 143, 3) := by decide +kernel
theorem dX4_ran_119 : decode cX4_ran 119 = .ok (.ireturn, 1) := by decide +kernel
theorem dX4_ran_120 : decode cX4_ran 120 = .ok (.iconst (-1), 1) := by decide +kernel
theorem dX4_ran_121 : decode cX4_ran 121 = .ok (.ireturn, 1) := by decide +kernel
theorem dX4_register_0 : decode cX4_register 0 = .ok (.aload_n 0, 1) := by decide +kernel
theorem dX4_register_1 : decode cX4_register 1 = .ok (.getfield 51, 3) := by decide +kernel
theorem dX4_register_4 : decode cX4_register 4 = .ok (.ifCond .eq 22, 3) := by decide +kernel
theorem dX4_register_7 : decode cX4_register 7 = .ok (.iload_n 1, 1) := by decide +kernel
theorem dX4_register_8 : decode cX4_register 8 = .ok (.invokestatic 146, 3) := by decide +kernel
theorem dX4_register_11 : decode cX4_register 11 = .ok (.ifCond .eq 15, 3) := by decide +kernel
theorem dX4_register_14 : decode cX4_register 14 = .ok (.aload_n 0, 1) := by decide +kernel
theorem dX4_register_15 : decode cX4_register 15 = .ok (.getfield 30, 3) := by decide +kernel
theorem dX4_register_18 : decode cX4_register 18 = .ok (.getfield 149, 3) := by decide +kernel
theorem dX4_register_21 : decode cX4_register 21 = .ok (.iload_n 1, 1) := by decide +kernel
theorem dX4_register_22 : decode cX4_register 22 = .ok (.iaload, 1) := by decide +kernel
theorem dX4_register_23 : decode cX4_register 23 = .ok (.goto 4, 3) := by decide +kernel
theorem dX4_register_26 : decode cX4_register 26 = .ok (.iconst 0, 1) := by decide +kernel
theorem dX4_register_27 : decode cX4_register 27 = .ok (.ireturn, 1) := by decide +kernel
theorem dX4_cell_0 : decode cX4_cell 0 = .ok (.aload_n 0, 1) := by decide +kernel
theorem dX4_cell_1 : decode cX4_cell 1 = .ok (.getfield 51, 3) := by decide +kernel
theorem dX4_cell_4 : decode cX4_cell 4 = .ok (.ifCond .eq 22, 3) := by decide +kernel
theorem dX4_cell_7 : decode cX4_cell 7 = .ok (.iload_n 1, 1) := by decide +kernel
theorem dX4_cell_8 : decode cX4_cell 8 = .ok (.invokestatic 153, 3) := by decide +kernel
theorem dX4_cell_11 : decode cX4_cell 11 = .ok (.ifCond .eq 15, 3) := by decide +kernel
theorem dX4_cell_14 : decode cX4_cell 14 = .ok (.aload_n 0, 1) := by decide +kernel
theorem dX4_cell_15 : decode cX4_cell 15 = .ok (.getfield 30, 3) := by decide +kernel
theorem dX4_cell_18 : decode cX4_cell 18 = .ok (.getfield 156, 3) := by decide +kernel
theorem dX4_cell_21 : decode cX4_cell 21 = .ok (.iload_n 1, 1) := by decide +kernel
theorem dX4_cell_22 : decode cX4_cell 22 = .ok (.iaload, 1) := by decide +kernel
theorem dX4_cell_23 : decode cX4_cell 23 = .ok (.goto 4, 3) := by decide +kernel
theorem dX4_cell_26 : decode cX4_cell 26 = .ok (.iconst 0, 1) := by decide +kernel
theorem dX4_cell_27 : decode cX4_cell 27 = .ok (.ireturn, 1) := by decide +kernel
theorem dX4_failure_0 : decode cX4_failure 0 = .ok (.aload_n 0, 1) := by decide +kernel
theorem dX4_failure_1 : decode cX4_failure 1 = .ok (.getfield 19, 3) := by decide +kernel
theorem dX4_failure_4 : decode cX4_failure 4 = .ok (.iload_n 1, 1) := by decide +kernel
theorem dX4_failure_5 : decode cX4_failure 5 = .ok (.invokevirtual 159, 3) := by decide +kernel
theorem dX4_failure_8 : decode cX4_failure 8 = .ok (.astore_n 3, 1) := by decide +kernel
theorem dX4_failure_9 : decode cX4_failure 9 = .ok (.aload_n 3, 1) := by decide +kernel
theorem dX4_failure_10 : decode cX4_failure 10 = .ok (.ifnonnull 5, 3) := by decide +kernel
theorem dX4_failure_13 : decode cX4_failure 13 = .ok (.iconst (-1), 1) := by decide +kernel
theorem dX4_failure_14 : decode cX4_failure 14 = .ok (.ireturn, 1) := by decide +kernel
theorem dX4_failure_15 : decode cX4_failure 15 = .ok (.iload_n 2, 1) := by decide +kernel
theorem dX4_failure_16 : decode cX4_failure 16 = .ok (.tableswitch 43 0 2 #[28, 33, 38], 28) := by decide +kernel
theorem dX4_failure_44 : decode cX4_failure 44 = .ok (.aload_n 3, 1) := by decide +kernel
theorem dX4_failure_45 : decode cX4_failure 45 = .ok (.getfield 72, 3) := by decide +kernel
theorem dX4_failure_48 : decode cX4_failure 48 = .ok (.ireturn, 1) := by decide +kernel
theorem dX4_failure_49 : decode cX4_failure 49 = .ok (.aload_n 3, 1) := by decide +kernel
theorem dX4_failure_50 : decode cX4_failure 50 = .ok (.getfield 77, 3) := by decide +kernel
theorem dX4_failure_53 : decode cX4_failure 53 = .ok (.ireturn, 1) := by decide +kernel
theorem dX4_failure_54 : decode cX4_failure 54 = .ok (.aload_n 3, 1) := by decide +kernel
theorem dX4_failure_55 : decode cX4_failure 55 = .ok (.getfield 90, 3) := by decide +kernel
theorem dX4_failure_58 : decode cX4_failure 58 = .ok (.ireturn, 1) := by decide +kernel
theorem dX4_failure_59 : decode cX4_failure 59 = .ok (.iconst (-1), 1) := by decide +kernel
theorem dX4_failure_60 : decode cX4_failure 60 = .ok (.ireturn, 1) := by decide +kernel
theorem dX4_covered_0 : decode cX4_covered 0 = .ok (.iload_n 1, 1) := by decide +kernel
theorem dX4_covered_1 : decode cX4_covered 1 = .ok (.ifCond .lt 24, 3) := by decide +kernel
theorem dX4_covered_4 : decode cX4_covered 4 = .ok (.iload_n 1, 1) := by decide +kernel
theorem dX4_covered_5 : decode cX4_covered 5 = .ok (.aload_n 0, 1) := by decide +kernel
theorem dX4_covered_6 : decode cX4_covered 6 = .ok (.getfield 12, 3) := by decide +kernel
theorem dX4_covered_9 : decode cX4_covered 9 = .ok (.getfield 44, 3) := by decide +kernel
theorem dX4_covered_12 : decode cX4_covered 12 = .ok (.if_icmp .ge 13, 3) := by decide +kernel
theorem dX4_covered_15 : decode cX4_covered 15 = .ok (.aload_n 0, 1) := by decide +kernel
theorem dX4_covered_16 : decode cX4_covered 16 = .ok (.getfield 19, 3) := by decide +kernel
theorem dX4_covered_19 : decode cX4_covered 19 = .ok (.invokevirtual 55, 3) := by decide +kernel
theorem dX4_covered_22 : decode cX4_covered 22 = .ok (.ifCond .ne 5, 3) := by decide +kernel
theorem dX4_covered_25 : decode cX4_covered 25 = .ok (.iconst (-1), 1) := by decide +kernel
theorem dX4_covered_26 : decode cX4_covered 26 = .ok (.ireturn, 1) := by decide +kernel
theorem dX4_covered_27 : decode cX4_covered 27 = .ok (.aload_n 0, 1) := by decide +kernel
theorem dX4_covered_28 : decode cX4_covered 28 = .ok (.getfield 19, 3) := by decide +kernel
theorem dX4_covered_31 : decode cX4_covered 31 = .ok (.getfield 162, 3) := by decide +kernel
theorem dX4_covered_34 : decode cX4_covered 34 = .ok (.iload_n 1, 1) := by decide +kernel
theorem dX4_covered_35 : decode cX4_covered 35 = .ok (.invokestatic 106, 3) := by decide +kernel
theorem dX4_covered_38 : decode cX4_covered 38 = .ok (.ifCond .eq 7, 3) := by decide +kernel
theorem dX4_covered_41 : decode cX4_covered 41 = .ok (.iconst 1, 1) := by decide +kernel
theorem dX4_covered_42 : decode cX4_covered 42 = .ok (.goto 4, 3) := by decide +kernel
theorem dX4_covered_45 : decode cX4_covered 45 = .ok (.iconst 0, 1) := by decide +kernel
theorem dX4_covered_46 : decode cX4_covered 46 = .ok (.ireturn, 1) := by decide +kernel
theorem dX4_count_0 : decode cX4_count 0 = .ok (.iload_n 1, 1) := by decide +kernel
theorem dX4_count_1 : decode cX4_count 1 = .ok (.tableswitch 114 0 5 #[39, 47, 55, 63, 78, 96], 39) := by decide +kernel
theorem dX4_count_40 : decode cX4_count 40 = .ok (.aload_n 0, 1) := by decide +kernel
theorem dX4_count_41 : decode cX4_count 41 = .ok (.getfield 12, 3) := by decide +kernel
theorem dX4_count_44 : decode cX4_count 44 = .ok (.getfield 163, 3) := by decide +kernel
theorem dX4_count_47 : decode cX4_count 47 = .ok (.ireturn, 1) := by decide +kernel
theorem dX4_count_48 : decode cX4_count 48 = .ok (.aload_n 0, 1) := by decide +kernel
theorem dX4_count_49 : decode cX4_count 49 = .ok (.getfield 12, 3) := by decide +kernel
theorem dX4_count_52 : decode cX4_count 52 = .ok (.getfield 166, 3) := by decide +kernel
theorem dX4_count_55 : decode cX4_count 55 = .ok (.ireturn, 1) := by decide +kernel
theorem dX4_count_56 : decode cX4_count 56 = .ok (.aload_n 0, 1) := by decide +kernel
theorem dX4_count_57 : decode cX4_count 57 = .ok (.getfield 12, 3) := by decide +kernel
theorem dX4_count_60 : decode cX4_count 60 = .ok (.getfield 44, 3) := by decide +kernel
theorem dX4_count_63 : decode cX4_count 63 = .ok (.ireturn, 1) := by decide +kernel
theorem dX4_count_64 : decode cX4_count 64 = .ok (.aload_n 0, 1) := by decide +kernel
theorem dX4_count_65 : decode cX4_count 65 = .ok (.getfield 19, 3) := by decide +kernel
theorem dX4_count_68 : decode cX4_count 68 = .ok (.aload_n 0, 1) := by decide +kernel
theorem dX4_count_69 : decode cX4_count 69 = .ok (.getfield 19, 3) := by decide +kernel
theorem dX4_count_72 : decode cX4_count 72 = .ok (.getfield 63, 3) := by decide +kernel
theorem dX4_count_75 : decode cX4_count 75 = .ok (.invokevirtual 64, 3) := by decide +kernel
theorem dX4_count_78 : decode cX4_count 78 = .ok (.ireturn, 1) := by decide +kernel
theorem dX4_count_79 : decode cX4_count 79 = .ok (.aload_n 0, 1) := by decide +kernel
theorem dX4_count_80 : decode cX4_count 80 = .ok (.getfield 19, 3) := by decide +kernel
theorem dX4_count_83 : decode cX4_count 83 = .ok (.aload_n 0, 1) := by decide +kernel
theorem dX4_count_84 : decode cX4_count 84 = .ok (.getfield 19, 3) := by decide +kernel
theorem dX4_count_87 : decode cX4_count 87 = .ok (.getfield 169, 3) := by decide +kernel
theorem dX4_count_90 : decode cX4_count 90 = .ok (.invokestatic 84, 3) := by decide +kernel
theorem dX4_count_93 : decode cX4_count 93 = .ok (.invokevirtual 64, 3) := by decide +kernel
theorem dX4_count_96 : decode cX4_count 96 = .ok (.ireturn, 1) := by decide +kernel
theorem dX4_count_97 : decode cX4_count 97 = .ok (.aload_n 0, 1) := by decide +kernel
theorem dX4_count_98 : decode cX4_count 98 = .ok (.getfield 19, 3) := by decide +kernel
theorem dX4_count_101 : decode cX4_count 101 = .ok (.aload_n 0, 1) := by decide +kernel
theorem dX4_count_102 : decode cX4_count 102 = .ok (.getfield 19, 3) := by decide +kernel
theorem dX4_count_105 : decode cX4_count 105 = .ok (.getfield 162, 3) := by decide +kernel
theorem dX4_count_108 : decode cX4_count 108 = .ok (.invokestatic 84, 3) := by decide +kernel
theorem dX4_count_111 : decode cX4_count 111 = .ok (.invokevirtual 64, 3) := by decide +kernel
theorem dX4_count_114 : decode cX4_count 114 = .ok (.ireturn, 1) := by decide +kernel
theorem dX4_count_115 : decode cX4_count 115 = .ok (.iconst (-1), 1) := by decide +kernel
theorem dX4_count_116 : decode cX4_count 116 = .ok (.ireturn, 1) := by decide +kernel
theorem dX4_forgetFindings_0 : decode cX4_forgetFindings 0 = .ok (.aload_n 0, 1) := by decide +kernel
theorem dX4_forgetFindings_1 : decode cX4_forgetFindings 1 = .ok (.getfield 19, 3) := by decide +kernel
theorem dX4_forgetFindings_4 : decode cX4_forgetFindings 4 = .ok (.invokevirtual 172, 3) := by decide +kernel
theorem dX4_forgetFindings_7 : decode cX4_forgetFindings 7 = .ok (.aload_n 0, 1) := by decide +kernel
theorem dX4_forgetFindings_8 : decode cX4_forgetFindings 8 = .ok (.iconst 1, 1) := by decide +kernel
theorem dX4_forgetFindings_9 : decode cX4_forgetFindings 9 = .ok (.putfield 131, 3) := by decide +kernel
theorem dX4_forgetFindings_12 : decode cX4_forgetFindings 12 = .ok (.return_, 1) := by decide +kernel
theorem dX4_mark_0 : decode cX4_mark 0 = .ok (.lconst 1, 1) := by decide +kernel
theorem dX4_mark_1 : decode cX4_mark 1 = .ok (.bipush 59, 2) := by decide +kernel
theorem dX4_mark_3 : decode cX4_mark 3 = .ok (.iload_n 0, 1) := by decide +kernel
theorem dX4_mark_4 : decode cX4_mark 4 = .ok (.isub, 1) := by decide +kernel
theorem dX4_mark_5 : decode cX4_mark 5 = .ok (.lshl, 1) := by decide +kernel
theorem dX4_mark_6 : decode cX4_mark 6 = .ok (.lreturn, 1) := by decide +kernel
theorem dX4_isMarked_0 : decode cX4_isMarked 0 = .ok (.lload_n 0, 1) := by decide +kernel
theorem dX4_isMarked_1 : decode cX4_isMarked 1 = .ok (.iload_n 2, 1) := by decide +kernel
theorem dX4_isMarked_2 : decode cX4_isMarked 2 = .ok (.invokestatic 175, 3) := by decide +kernel
theorem dX4_isMarked_5 : decode cX4_isMarked 5 = .ok (.land, 1) := by decide +kernel
theorem dX4_isMarked_6 : decode cX4_isMarked 6 = .ok (.lconst 0, 1) := by decide +kernel
theorem dX4_isMarked_7 : decode cX4_isMarked 7 = .ok (.lcmp, 1) := by decide +kernel
theorem dX4_isMarked_8 : decode cX4_isMarked 8 = .ok (.ifCond .eq 7, 3) := by decide +kernel
theorem dX4_isMarked_11 : decode cX4_isMarked 11 = .ok (.iconst 1, 1) := by decide +kernel
theorem dX4_isMarked_12 : decode cX4_isMarked 12 = .ok (.goto 4, 3) := by decide +kernel
theorem dX4_isMarked_15 : decode cX4_isMarked 15 = .ok (.iconst 0, 1) := by decide +kernel
theorem dX4_isMarked_16 : decode cX4_isMarked 16 = .ok (.ireturn, 1) := by decide +kernel
theorem dX4_placeOfMark_0 : decode cX4_placeOfMark 0 = .ok (.iconst 0, 1) := by decide +kernel
theorem dX4_placeOfMark_1 : decode cX4_placeOfMark 1 = .ok (.istore_n 3, 1) := by decide +kernel
theorem dX4_placeOfMark_2 : decode cX4_placeOfMark 2 = .ok (.iconst 0, 1) := by decide +kernel
theorem dX4_placeOfMark_3 : decode cX4_placeOfMark 3 = .ok (.istore 4, 2) := by decide +kernel
theorem dX4_placeOfMark_5 : decode cX4_placeOfMark 5 = .ok (.iload 4, 2) := by decide +kernel
theorem dX4_placeOfMark_7 : decode cX4_placeOfMark 7 = .ok (.bipush 60, 2) := by decide +kernel
theorem dX4_placeOfMark_9 : decode cX4_placeOfMark 9 = .ok (.if_icmp .ge 29, 3) := by decide +kernel
theorem dX4_placeOfMark_12 : decode cX4_placeOfMark 12 = .ok (.lload_n 0, 1) := by decide +kernel
theorem dX4_placeOfMark_13 : decode cX4_placeOfMark 13 = .ok (.iload 4, 2) := by decide +kernel
theorem dX4_placeOfMark_15 : decode cX4_placeOfMark 15 = .ok (.invokestatic 106, 3) := by decide +kernel
theorem dX4_placeOfMark_18 : decode cX4_placeOfMark 18 = .ok (.ifCond .eq 14, 3) := by decide +kernel
theorem dX4_placeOfMark_21 : decode cX4_placeOfMark 21 = .ok (.iload_n 3, 1) := by decide +kernel
theorem dX4_placeOfMark_22 : decode cX4_placeOfMark 22 = .ok (.iload_n 2, 1) := by decide +kernel
theorem dX4_placeOfMark_23 : decode cX4_placeOfMark 23 = .ok (.if_icmp .ne 6, 3) := by decide +kernel
theorem dX4_placeOfMark_26 : decode cX4_placeOfMark 26 = .ok (.iload 4, 2) := by decide +kernel
theorem dX4_placeOfMark_28 : decode cX4_placeOfMark 28 = .ok (.ireturn, 1) := by decide +kernel
theorem dX4_placeOfMark_29 : decode cX4_placeOfMark 29 = .ok (.iinc 3 1, 3) := by decide +kernel
theorem dX4_placeOfMark_32 : decode cX4_placeOfMark 32 = .ok (.iinc 4 1, 3) := by decide +kernel
theorem dX4_placeOfMark_35 : decode cX4_placeOfMark 35 = .ok (.goto (-30), 3) := by decide +kernel
theorem dX4_placeOfMark_38 : decode cX4_placeOfMark 38 = .ok (.iconst (-1), 1) := by decide +kernel
theorem dX4_placeOfMark_39 : decode cX4_placeOfMark 39 = .ok (.ireturn, 1) := by decide +kernel
theorem dX4_isBelowUnsigned_0 : decode cX4_isBelowUnsigned 0 = .ok (.iload_n 0, 1) := by decide +kernel
theorem dX4_isBelowUnsigned_1 : decode cX4_isBelowUnsigned 1 = .ok (.i2l, 1) := by decide +kernel
theorem dX4_isBelowUnsigned_2 : decode cX4_isBelowUnsigned 2 = .ok (.ldc2_w 179, 3) := by decide +kernel
theorem dX4_isBelowUnsigned_5 : decode cX4_isBelowUnsigned 5 = .ok (.land, 1) := by decide +kernel
theorem dX4_isBelowUnsigned_6 : decode cX4_isBelowUnsigned 6 = .ok (.iload_n 1, 1) := by decide +kernel
theorem dX4_isBelowUnsigned_7 : decode cX4_isBelowUnsigned 7 = .ok (.i2l, 1) := by decide +kernel
theorem dX4_isBelowUnsigned_8 : decode cX4_isBelowUnsigned 8 = .ok (.ldc2_w 179, 3) := by decide +kernel
theorem dX4_isBelowUnsigned_11 : decode cX4_isBelowUnsigned 11 = .ok (.land, 1) := by decide +kernel
theorem dX4_isBelowUnsigned_12 : decode cX4_isBelowUnsigned 12 = .ok (.lcmp, 1) := by decide +kernel
theorem dX4_isBelowUnsigned_13 : decode cX4_isBelowUnsigned 13 = .ok (.ifCond .ge 7, 3) := by decide +kernel
theorem dX4_isBelowUnsigned_16 : decode cX4_isBelowUnsigned 16 = .ok (.iconst 1, 1) := by decide +kernel
theorem dX4_isBelowUnsigned_17 : decode cX4_isBelowUnsigned 17 = .ok (.goto 4, 3) := by decide +kernel
theorem dX4_isBelowUnsigned_20 : decode cX4_isBelowUnsigned 20 = .ok (.iconst 0, 1) := by decide +kernel
theorem dX4_isBelowUnsigned_21 : decode cX4_isBelowUnsigned 21 = .ok (.ireturn, 1) := by decide +kernel
theorem dX4_combine_0 : decode cX4_combine 0 = .ok (.iload_n 0, 1) := by decide +kernel
theorem dX4_combine_1 : decode cX4_combine 1 = .ok (.tableswitch 199 3 21 #[91, 95, 99, 103, 107, 111, 115, 119, 123, 199, 199, 199, 199, 127, 138, 149, 163, 177, 188], 91) := by decide +kernel
theorem dX4_combine_92 : decode cX4_combine 92 = .ok (.iload_n 1, 1) := by decide +kernel
theorem dX4_combine_93 : decode cX4_combine 93 = .ok (.iload_n 2, 1) := by decide +kernel
theorem dX4_combine_94 : decode cX4_combine 94 = .ok (.iadd, 1) := by decide +kernel
theorem dX4_combine_95 : decode cX4_combine 95 = .ok (.ireturn, 1) := by decide +kernel
theorem dX4_combine_96 : decode cX4_combine 96 = .ok (.iload_n 1, 1) := by decide +kernel
theorem dX4_combine_97 : decode cX4_combine 97 = .ok (.iload_n 2, 1) := by decide +kernel
theorem dX4_combine_98 : decode cX4_combine 98 = .ok (.isub, 1) := by decide +kernel
theorem dX4_combine_99 : decode cX4_combine 99 = .ok (.ireturn, 1) := by decide +kernel
theorem dX4_combine_100 : decode cX4_combine 100 = .ok (.iload_n 1, 1) := by decide +kernel
theorem dX4_combine_101 : decode cX4_combine 101 = .ok (.iload_n 2, 1) := by decide +kernel
theorem dX4_combine_102 : decode cX4_combine 102 = .ok (.imul, 1) := by decide +kernel
theorem dX4_combine_103 : decode cX4_combine 103 = .ok (.ireturn, 1) := by decide +kernel
theorem dX4_combine_104 : decode cX4_combine 104 = .ok (.iload_n 1, 1) := by decide +kernel
theorem dX4_combine_105 : decode cX4_combine 105 = .ok (.iload_n 2, 1) := by decide +kernel
theorem dX4_combine_106 : decode cX4_combine 106 = .ok (.iand, 1) := by decide +kernel
theorem dX4_combine_107 : decode cX4_combine 107 = .ok (.ireturn, 1) := by decide +kernel
theorem dX4_combine_108 : decode cX4_combine 108 = .ok (.iload_n 1, 1) := by decide +kernel
theorem dX4_combine_109 : decode cX4_combine 109 = .ok (.iload_n 2, 1) := by decide +kernel
theorem dX4_combine_110 : decode cX4_combine 110 = .ok (.ior, 1) := by decide +kernel
theorem dX4_combine_111 : decode cX4_combine 111 = .ok (.ireturn, 1) := by decide +kernel
theorem dX4_combine_112 : decode cX4_combine 112 = .ok (.iload_n 1, 1) := by decide +kernel
theorem dX4_combine_113 : decode cX4_combine 113 = .ok (.iload_n 2, 1) := by decide +kernel
theorem dX4_combine_114 : decode cX4_combine 114 = .ok (.ixor, 1) := by decide +kernel
theorem dX4_combine_115 : decode cX4_combine 115 = .ok (.ireturn, 1) := by decide +kernel
theorem dX4_combine_116 : decode cX4_combine 116 = .ok (.iload_n 1, 1) := by decide +kernel
theorem dX4_combine_117 : decode cX4_combine 117 = .ok (.iload_n 2, 1) := by decide +kernel
theorem dX4_combine_118 : decode cX4_combine 118 = .ok (.ishl, 1) := by decide +kernel
theorem dX4_combine_119 : decode cX4_combine 119 = .ok (.ireturn, 1) := by decide +kernel
theorem dX4_combine_120 : decode cX4_combine 120 = .ok (.iload_n 1, 1) := by decide +kernel
theorem dX4_combine_121 : decode cX4_combine 121 = .ok (.iload_n 2, 1) := by decide +kernel
theorem dX4_combine_122 : decode cX4_combine 122 = .ok (.iushr, 1) := by decide +kernel
theorem dX4_combine_123 : decode cX4_combine 123 = .ok (.ireturn, 1) := by decide +kernel
theorem dX4_combine_124 : decode cX4_combine 124 = .ok (.iload_n 1, 1) := by decide +kernel
theorem dX4_combine_125 : decode cX4_combine 125 = .ok (.iload_n 2, 1) := by decide +kernel
theorem dX4_combine_126 : decode cX4_combine 126 = .ok (.ishr, 1) := by decide +kernel
theorem dX4_combine_127 : decode cX4_combine 127 = .ok (.ireturn, 1) := by decide +kernel
theorem dX4_combine_128 : decode cX4_combine 128 = .ok (.iload_n 1, 1) := by decide +kernel
theorem dX4_combine_129 : decode cX4_combine 129 = .ok (.iload_n 2, 1) := by decide +kernel
theorem dX4_combine_130 : decode cX4_combine 130 = .ok (.if_icmp .ne 7, 3) := by decide +kernel
theorem dX4_combine_133 : decode cX4_combine 133 = .ok (.iconst 1, 1) := by decide +kernel
theorem dX4_combine_134 : decode cX4_combine 134 = .ok (.goto 4, 3) := by decide +kernel
theorem dX4_combine_137 : decode cX4_combine 137 = .ok (.iconst 0, 1) := by decide +kernel
theorem dX4_combine_138 : decode cX4_combine 138 = .ok (.ireturn, 1) := by decide +kernel
theorem dX4_combine_139 : decode cX4_combine 139 = .ok (.iload_n 1, 1) := by decide +kernel
theorem dX4_combine_140 : decode cX4_combine 140 = .ok (.iload_n 2, 1) := by decide +kernel
theorem dX4_combine_141 : decode cX4_combine 141 = .ok (.if_icmp .eq 7, 3) := by decide +kernel
theorem dX4_combine_144 : decode cX4_combine 144 = .ok (.iconst 1, 1) := by decide +kernel
theorem dX4_combine_145 : decode cX4_combine 145 = .ok (.goto 4, 3) := by decide +kernel
theorem dX4_combine_148 : decode cX4_combine 148 = .ok (.iconst 0, 1) := by decide +kernel
theorem dX4_combine_149 : decode cX4_combine 149 = .ok (.ireturn, 1) := by decide +kernel
theorem dX4_combine_150 : decode cX4_combine 150 = .ok (.iload_n 1, 1) := by decide +kernel
theorem dX4_combine_151 : decode cX4_combine 151 = .ok (.iload_n 2, 1) := by decide +kernel
theorem dX4_combine_152 : decode cX4_combine 152 = .ok (.invokestatic 181, 3) := by decide +kernel
theorem dX4_combine_155 : decode cX4_combine 155 = .ok (.ifCond .eq 7, 3) := by decide +kernel
theorem dX4_combine_158 : decode cX4_combine 158 = .ok (.iconst 1, 1) := by decide +kernel
theorem dX4_combine_159 : decode cX4_combine 159 = .ok (.goto 4, 3) := by decide +kernel
theorem dX4_combine_162 : decode cX4_combine 162 = .ok (.iconst 0, 1) := by decide +kernel
theorem dX4_combine_163 : decode cX4_combine 163 = .ok (.ireturn, 1) := by decide +kernel
theorem dX4_combine_164 : decode cX4_combine 164 = .ok (.iload_n 2, 1) := by decide +kernel
theorem dX4_combine_165 : decode cX4_combine 165 = .ok (.iload_n 1, 1) := by decide +kernel
theorem dX4_combine_166 : decode cX4_combine 166 = .ok (.invokestatic 181, 3) := by decide +kernel
theorem dX4_combine_169 : decode cX4_combine 169 = .ok (.ifCond .eq 7, 3) := by decide +kernel
theorem dX4_combine_172 : decode cX4_combine 172 = .ok (.iconst 0, 1) := by decide +kernel
theorem dX4_combine_173 : decode cX4_combine 173 = .ok (.goto 4, 3) := by decide +kernel
theorem dX4_combine_176 : decode cX4_combine 176 = .ok (.iconst 1, 1) := by decide +kernel
theorem dX4_combine_177 : decode cX4_combine 177 = .ok (.ireturn, 1) := by decide +kernel
theorem dX4_combine_178 : decode cX4_combine 178 = .ok (.iload_n 1, 1) := by decide +kernel
theorem dX4_combine_179 : decode cX4_combine 179 = .ok (.iload_n 2, 1) := by decide +kernel
theorem dX4_combine_180 : decode cX4_combine 180 = .ok (.if_icmp .ge 7, 3) := by decide +kernel
theorem dX4_combine_183 : decode cX4_combine 183 = .ok (.iconst 1, 1) := by decide +kernel
theorem dX4_combine_184 : decode cX4_combine 184 = .ok (.goto 4, 3) := by decide +kernel
theorem dX4_combine_187 : decode cX4_combine 187 = .ok (.iconst 0, 1) := by decide +kernel
theorem dX4_combine_188 : decode cX4_combine 188 = .ok (.ireturn, 1) := by decide +kernel
theorem dX4_combine_189 : decode cX4_combine 189 = .ok (.iload_n 1, 1) := by decide +kernel
theorem dX4_combine_190 : decode cX4_combine 190 = .ok (.iload_n 2, 1) := by decide +kernel
theorem dX4_combine_191 : decode cX4_combine 191 = .ok (.if_icmp .gt 7, 3) := by decide +kernel
theorem dX4_combine_194 : decode cX4_combine 194 = .ok (.iconst 1, 1) := by decide +kernel
theorem dX4_combine_195 : decode cX4_combine 195 = .ok (.goto 4, 3) := by decide +kernel
theorem dX4_combine_198 : decode cX4_combine 198 = .ok (.iconst 0, 1) := by decide +kernel
theorem dX4_combine_199 : decode cX4_combine 199 = .ok (.ireturn, 1) := by decide +kernel
theorem dX4_combine_200 : decode cX4_combine 200 = .ok (.iconst 0, 1) := by decide +kernel
theorem dX4_combine_201 : decode cX4_combine 201 = .ok (.ireturn, 1) := by decide +kernel
theorem dX4_divide_0 : decode cX4_divide 0 = .ok (.iload_n 0, 1) := by decide +kernel
theorem dX4_divide_1 : decode cX4_divide 1 = .ok (.bipush 13, 2) := by decide +kernel
theorem dX4_divide_3 : decode cX4_divide 3 = .ok (.if_icmp .eq 9, 3) := by decide +kernel
theorem dX4_divide_6 : decode cX4_divide 6 = .ok (.iload_n 0, 1) := by decide +kernel
theorem dX4_divide_7 : decode cX4_divide 7 = .ok (.bipush 15, 2) := by decide +kernel
theorem dX4_divide_9 : decode cX4_divide 9 = .ok (.if_icmp .ne 7, 3) := by decide +kernel
theorem dX4_divide_12 : decode cX4_divide 12 = .ok (.iconst 1, 1) := by decide +kernel
theorem dX4_divide_13 : decode cX4_divide 13 = .ok (.goto 4, 3) := by decide +kernel
theorem dX4_divide_16 : decode cX4_divide 16 = .ok (.iconst 0, 1) := by decide +kernel
theorem dX4_divide_17 : decode cX4_divide 17 = .ok (.istore_n 3, 1) := by decide +kernel
theorem dX4_divide_18 : decode cX4_divide 18 = .ok (.iload_n 2, 1) := by decide +kernel
theorem dX4_divide_19 : decode cX4_divide 19 = .ok (.ifCond .ne 13, 3) := by decide +kernel
theorem dX4_divide_22 : decode cX4_divide 22 = .ok (.iload_n 3, 1) := by decide +kernel
theorem dX4_divide_23 : decode cX4_divide 23 = .ok (.ifCond .eq 7, 3) := by decide +kernel
theorem dX4_divide_26 : decode cX4_divide 26 = .ok (.iload_n 1, 1) := by decide +kernel
theorem dX4_divide_27 : decode cX4_divide 27 = .ok (.goto 4, 3) := by decide +kernel
theorem dX4_divide_30 : decode cX4_divide 30 = .ok (.iconst (-1), 1) := by decide +kernel
theorem dX4_divide_31 : decode cX4_divide 31 = .ok (.ireturn, 1) := by decide +kernel
theorem dX4_divide_32 : decode cX4_divide 32 = .ok (.iload_n 0, 1) := by decide +kernel
theorem dX4_divide_33 : decode cX4_divide 33 = .ok (.bipush 14, 2) := by decide +kernel
theorem dX4_divide_35 : decode cX4_divide 35 = .ok (.if_icmp .eq 9, 3) := by decide +kernel
theorem dX4_divide_38 : decode cX4_divide 38 = .ok (.iload_n 0, 1) := by decide +kernel
theorem dX4_divide_39 : decode cX4_divide 39 = .ok (.bipush 15, 2) := by decide +kernel
theorem dX4_divide_41 : decode cX4_divide 41 = .ok (.if_icmp .ne 17, 3) := by decide +kernel
theorem dX4_divide_44 : decode cX4_divide 44 = .ok (.iload_n 3, 1) := by decide +kernel
theorem dX4_divide_45 : decode cX4_divide 45 = .ok (.ifCond .eq 9, 3) := by decide +kernel
theorem dX4_divide_48 : decode cX4_divide 48 = .ok (.iload_n 1, 1) := by decide +kernel
theorem dX4_divide_49 : decode cX4_divide 49 = .ok (.iload_n 2, 1) := by decide +kernel
theorem dX4_divide_50 : decode cX4_divide 50 = .ok (.irem, 1) := by decide +kernel
theorem dX4_divide_51 : decode cX4_divide 51 = .ok (.goto 6, 3) := by decide +kernel
theorem dX4_divide_54 : decode cX4_divide 54 = .ok (.iload_n 1, 1) := by decide +kernel
theorem dX4_divide_55 : decode cX4_divide 55 = .ok (.iload_n 2, 1) := by decide +kernel
theorem dX4_divide_56 : decode cX4_divide 56 = .ok (.idiv, 1) := by decide +kernel
theorem dX4_divide_57 : decode cX4_divide 57 = .ok (.ireturn, 1) := by decide +kernel
theorem dX4_divide_58 : decode cX4_divide 58 = .ok (.iload_n 1, 1) := by decide +kernel
theorem dX4_divide_59 : decode cX4_divide 59 = .ok (.i2l, 1) := by decide +kernel
theorem dX4_divide_60 : decode cX4_divide 60 = .ok (.ldc2_w 179, 3) := by decide +kernel
theorem dX4_divide_63 : decode cX4_divide 63 = .ok (.land, 1) := by decide +kernel
theorem dX4_divide_64 : decode cX4_divide 64 = .ok (.lstore 4, 2) := by decide +kernel
theorem dX4_divide_66 : decode cX4_divide 66 = .ok (.iload_n 2, 1) := by decide +kernel
theorem dX4_divide_67 : decode cX4_divide 67 = .ok (.i2l, 1) := by decide +kernel
theorem dX4_divide_68 : decode cX4_divide 68 = .ok (.ldc2_w 179, 3) := by decide +kernel
theorem dX4_divide_71 : decode cX4_divide 71 = .ok (.land, 1) := by decide +kernel
theorem dX4_divide_72 : decode cX4_divide 72 = .ok (.lstore 6, 2) := by decide +kernel
theorem dX4_divide_74 : decode cX4_divide 74 = .ok (.iload_n 3, 1) := by decide +kernel
theorem dX4_divide_75 : decode cX4_divide 75 = .ok (.ifCond .eq 11, 3) := by decide +kernel
theorem dX4_divide_78 : decode cX4_divide 78 = .ok (.lload 4, 2) := by decide +kernel
theorem dX4_divide_80 : decode cX4_divide 80 = .ok (.lload 6, 2) := by decide +kernel
theorem dX4_divide_82 : decode cX4_divide 82 = .ok (.lrem, 1) := by decide +kernel
theorem dX4_divide_83 : decode cX4_divide 83 = .ok (.goto 8, 3) := by decide +kernel
theorem dX4_divide_86 : decode cX4_divide 86 = .ok (.lload 4, 2) := by decide +kernel
theorem dX4_divide_88 : decode cX4_divide 88 = .ok (.lload 6, 2) := by decide +kernel
theorem dX4_divide_90 : decode cX4_divide 90 = .ok (.ldiv, 1) := by decide +kernel
theorem dX4_divide_91 : decode cX4_divide 91 = .ok (.l2i, 1) := by decide +kernel
theorem dX4_divide_92 : decode cX4_divide 92 = .ok (.ireturn, 1) := by decide +kernel
theorem dX4_isDivision_0 : decode cX4_isDivision 0 = .ok (.iload_n 0, 1) := by decide +kernel
theorem dX4_isDivision_1 : decode cX4_isDivision 1 = .ok (.bipush 12, 2) := by decide +kernel
theorem dX4_isDivision_3 : decode cX4_isDivision 3 = .ok (.if_icmp .lt 13, 3) := by decide +kernel
theorem dX4_isDivision_6 : decode cX4_isDivision 6 = .ok (.iload_n 0, 1) := by decide +kernel
theorem dX4_isDivision_7 : decode cX4_isDivision 7 = .ok (.bipush 15, 2) := by decide +kernel
theorem dX4_isDivision_9 : decode cX4_isDivision 9 = .ok (.if_icmp .gt 7, 3) := by decide +kernel
theorem dX4_isDivision_12 : decode cX4_isDivision 12 = .ok (.iconst 1, 1) := by decide +kernel
theorem dX4_isDivision_13 : decode cX4_isDivision 13 = .ok (.goto 4, 3) := by decide +kernel
theorem dX4_isDivision_16 : decode cX4_isDivision 16 = .ok (.iconst 0, 1) := by decide +kernel
theorem dX4_isDivision_17 : decode cX4_isDivision 17 = .ok (.ireturn, 1) := by decide +kernel
theorem dX4_isRegister_0 : decode cX4_isRegister 0 = .ok (.iload_n 0, 1) := by decide +kernel
theorem dX4_isRegister_1 : decode cX4_isRegister 1 = .ok (.ifCond .lt 13, 3) := by decide +kernel
theorem dX4_isRegister_4 : decode cX4_isRegister 4 = .ok (.iload_n 0, 1) := by decide +kernel
theorem dX4_isRegister_5 : decode cX4_isRegister 5 = .ok (.bipush 16, 2) := by decide +kernel
theorem dX4_isRegister_7 : decode cX4_isRegister 7 = .ok (.if_icmp .ge 7, 3) := by decide +kernel
theorem dX4_isRegister_10 : decode cX4_isRegister 10 = .ok (.iconst 1, 1) := by decide +kernel
theorem dX4_isRegister_11 : decode cX4_isRegister 11 = .ok (.goto 4, 3) := by decide +kernel
theorem dX4_isRegister_14 : decode cX4_isRegister 14 = .ok (.iconst 0, 1) := by decide +kernel
theorem dX4_isRegister_15 : decode cX4_isRegister 15 = .ok (.ireturn, 1) := by decide +kernel
theorem dX4_isCell_0 : decode cX4_isCell 0 = .ok (.iload_n 0, 1) := by decide +kernel
theorem dX4_isCell_1 : decode cX4_isCell 1 = .ok (.ifCond .lt 13, 3) := by decide +kernel
theorem dX4_isCell_4 : decode cX4_isCell 4 = .ok (.iload_n 0, 1) := by decide +kernel
theorem dX4_isCell_5 : decode cX4_isCell 5 = .ok (.bipush 8, 2) := by decide +kernel
theorem dX4_isCell_7 : decode cX4_isCell 7 = .ok (.if_icmp .ge 7, 3) := by decide +kernel
theorem dX4_isCell_10 : decode cX4_isCell 10 = .ok (.iconst 1, 1) := by decide +kernel
theorem dX4_isCell_11 : decode cX4_isCell 11 = .ok (.goto 4, 3) := by decide +kernel
theorem dX4_isCell_14 : decode cX4_isCell 14 = .ok (.iconst 0, 1) := by decide +kernel
theorem dX4_isCell_15 : decode cX4_isCell 15 = .ok (.ireturn, 1) := by decide +kernel
theorem dJ13_bitCount_95d88_0 : decode cJ13_bitCount_95d88 0 = .ok (.lload_n 0, 1) := by decide +kernel
theorem dJ13_bitCount_95d88_1 : decode cJ13_bitCount_95d88 1 = .ok (.lload_n 0, 1) := by decide +kernel
theorem dJ13_bitCount_95d88_2 : decode cJ13_bitCount_95d88 2 = .ok (.iconst 1, 1) := by decide +kernel
theorem dJ13_bitCount_95d88_3 : decode cJ13_bitCount_95d88 3 = .ok (.lushr, 1) := by decide +kernel
theorem dJ13_bitCount_95d88_4 : decode cJ13_bitCount_95d88 4 = .ok (.ldc2_w 314, 3) := by decide +kernel
theorem dJ13_bitCount_95d88_7 : decode cJ13_bitCount_95d88 7 = .ok (.land, 1) := by decide +kernel
theorem dJ13_bitCount_95d88_8 : decode cJ13_bitCount_95d88 8 = .ok (.lsub, 1) := by decide +kernel
theorem dJ13_bitCount_95d88_9 : decode cJ13_bitCount_95d88 9 = .ok (.lstore_n 0, 1) := by decide +kernel
theorem dJ13_bitCount_95d88_10 : decode cJ13_bitCount_95d88 10 = .ok (.lload_n 0, 1) := by decide +kernel
theorem dJ13_bitCount_95d88_11 : decode cJ13_bitCount_95d88 11 = .ok (.ldc2_w 316, 3) := by decide +kernel
theorem dJ13_bitCount_95d88_14 : decode cJ13_bitCount_95d88 14 = .ok (.land, 1) := by decide +kernel
theorem dJ13_bitCount_95d88_15 : decode cJ13_bitCount_95d88 15 = .ok (.lload_n 0, 1) := by decide +kernel
theorem dJ13_bitCount_95d88_16 : decode cJ13_bitCount_95d88 16 = .ok (.iconst 2, 1) := by decide +kernel
theorem dJ13_bitCount_95d88_17 : decode cJ13_bitCount_95d88 17 = .ok (.lushr, 1) := by decide +kernel
theorem dJ13_bitCount_95d88_18 : decode cJ13_bitCount_95d88 18 = .ok (.ldc2_w 316, 3) := by decide +kernel
theorem dJ13_bitCount_95d88_21 : decode cJ13_bitCount_95d88 21 = .ok (.land, 1) := by decide +kernel
theorem dJ13_bitCount_95d88_22 : decode cJ13_bitCount_95d88 22 = .ok (.ladd, 1) := by decide +kernel
theorem dJ13_bitCount_95d88_23 : decode cJ13_bitCount_95d88 23 = .ok (.lstore_n 0, 1) := by decide +kernel
theorem dJ13_bitCount_95d88_24 : decode cJ13_bitCount_95d88 24 = .ok (.lload_n 0, 1) := by decide +kernel
theorem dJ13_bitCount_95d88_25 : decode cJ13_bitCount_95d88 25 = .ok (.lload_n 0, 1) := by decide +kernel
theorem dJ13_bitCount_95d88_26 : decode cJ13_bitCount_95d88 26 = .ok (.iconst 4, 1) := by decide +kernel
theorem dJ13_bitCount_95d88_27 : decode cJ13_bitCount_95d88 27 = .ok (.lushr, 1) := by decide +kernel
theorem dJ13_bitCount_95d88_28 : decode cJ13_bitCount_95d88 28 = .ok (.ladd, 1) := by decide +kernel
theorem dJ13_bitCount_95d88_29 : decode cJ13_bitCount_95d88 29 = .ok (.ldc2_w 318, 3) := by decide +kernel
theorem dJ13_bitCount_95d88_32 : decode cJ13_bitCount_95d88 32 = .ok (.land, 1) := by decide +kernel
theorem dJ13_bitCount_95d88_33 : decode cJ13_bitCount_95d88 33 = .ok (.lstore_n 0, 1) := by decide +kernel
theorem dJ13_bitCount_95d88_34 : decode cJ13_bitCount_95d88 34 = .ok (.lload_n 0, 1) := by decide +kernel
theorem dJ13_bitCount_95d88_35 : decode cJ13_bitCount_95d88 35 = .ok (.lload_n 0, 1) := by decide +kernel
theorem dJ13_bitCount_95d88_36 : decode cJ13_bitCount_95d88 36 = .ok (.bipush 8, 2) := by decide +kernel
theorem dJ13_bitCount_95d88_38 : decode cJ13_bitCount_95d88 38 = .ok (.lushr, 1) := by decide +kernel
theorem dJ13_bitCount_95d88_39 : decode cJ13_bitCount_95d88 39 = .ok (.ladd, 1) := by decide +kernel
theorem dJ13_bitCount_95d88_40 : decode cJ13_bitCount_95d88 40 = .ok (.lstore_n 0, 1) := by decide +kernel
theorem dJ13_bitCount_95d88_41 : decode cJ13_bitCount_95d88 41 = .ok (.lload_n 0, 1) := by decide +kernel
theorem dJ13_bitCount_95d88_42 : decode cJ13_bitCount_95d88 42 = .ok (.lload_n 0, 1) := by decide +kernel
theorem dJ13_bitCount_95d88_43 : decode cJ13_bitCount_95d88 43 = .ok (.bipush 16, 2) := by decide +kernel
theorem dJ13_bitCount_95d88_45 : decode cJ13_bitCount_95d88 45 = .ok (.lushr, 1) := by decide +kernel
theorem dJ13_bitCount_95d88_46 : decode cJ13_bitCount_95d88 46 = .ok (.ladd, 1) := by decide +kernel
theorem dJ13_bitCount_95d88_47 : decode cJ13_bitCount_95d88 47 = .ok (.lstore_n 0, 1) := by decide +kernel
theorem dJ13_bitCount_95d88_48 : decode cJ13_bitCount_95d88 48 = .ok (.lload_n 0, 1) := by decide +kernel
theorem dJ13_bitCount_95d88_49 : decode cJ13_bitCount_95d88 49 = .ok (.lload_n 0, 1) := by decide +kernel
theorem dJ13_bitCount_95d88_50 : decode cJ13_bitCount_95d88 50 = .ok (.bipush 32, 2) := by decide +kernel
theorem dJ13_bitCount_95d88_52 : decode cJ13_bitCount_95d88 52 = .ok (.lushr, 1) := by decide +kernel
theorem dJ13_bitCount_95d88_53 : decode cJ13_bitCount_95d88 53 = .ok (.ladd, 1) := by decide +kernel
theorem dJ13_bitCount_95d88_54 : decode cJ13_bitCount_95d88 54 = .ok (.lstore_n 0, 1) := by decide +kernel
theorem dJ13_bitCount_95d88_55 : decode cJ13_bitCount_95d88 55 = .ok (.lload_n 0, 1) := by decide +kernel
theorem dJ13_bitCount_95d88_56 : decode cJ13_bitCount_95d88 56 = .ok (.l2i, 1) := by decide +kernel
theorem dJ13_bitCount_95d88_57 : decode cJ13_bitCount_95d88 57 = .ok (.bipush 127, 2) := by decide +kernel
theorem dJ13_bitCount_95d88_59 : decode cJ13_bitCount_95d88 59 = .ok (.iand, 1) := by decide +kernel
theorem dJ13_bitCount_95d88_60 : decode cJ13_bitCount_95d88 60 = .ok (.ireturn, 1) := by decide +kernel
theorem dJ7_fill_53178_0 : decode cJ7_fill_53178 0 = .ok (.iconst 0, 1) := by decide +kernel
theorem dJ7_fill_53178_1 : decode cJ7_fill_53178 1 = .ok (.istore_n 2, 1) := by decide +kernel
theorem dJ7_fill_53178_2 : decode cJ7_fill_53178 2 = .ok (.aload_n 0, 1) := by decide +kernel
theorem dJ7_fill_53178_3 : decode cJ7_fill_53178 3 = .ok (.arraylength, 1) := by decide +kernel
theorem dJ7_fill_53178_4 : decode cJ7_fill_53178 4 = .ok (.istore_n 3, 1) := by decide +kernel
theorem dJ7_fill_53178_5 : decode cJ7_fill_53178 5 = .ok (.iload_n 2, 1) := by decide +kernel
theorem dJ7_fill_53178_6 : decode cJ7_fill_53178 6 = .ok (.iload_n 3, 1) := by decide +kernel
theorem dJ7_fill_53178_7 : decode cJ7_fill_53178 7 = .ok (.if_icmp .ge 13, 3) := by decide +kernel
theorem dJ7_fill_53178_10 : decode cJ7_fill_53178 10 = .ok (.aload_n 0, 1) := by decide +kernel
theorem dJ7_fill_53178_11 : decode cJ7_fill_53178 11 = .ok (.iload_n 2, 1) := by decide +kernel
theorem dJ7_fill_53178_12 : decode cJ7_fill_53178 12 = .ok (.iload_n 1, 1) := by decide +kernel
theorem dJ7_fill_53178_13 : decode cJ7_fill_53178 13 = .ok (.iastore, 1) := by decide +kernel
theorem dJ7_fill_53178_14 : decode cJ7_fill_53178 14 = .ok (.iinc 2 1, 3) := by decide +kernel
theorem dJ7_fill_53178_17 : decode cJ7_fill_53178 17 = .ok (.goto (-12), 3) := by decide +kernel
theorem dJ7_fill_53178_20 : decode cJ7_fill_53178 20 = .ok (.return_, 1) := by decide +kernel
