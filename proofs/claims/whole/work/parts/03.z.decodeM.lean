theorem dX12_isIn_0 : decode cX12_isIn 0 = .ok (.iload_n 1, 1) := by decide +kernel
theorem dX12_isIn_1 : decode cX12_isIn 1 = .ok (.iload_n 2, 1) := by decide +kernel
theorem dX12_isIn_2 : decode cX12_isIn 2 = .ok (.if_icmp .lt 12, 3) := by decide +kernel
theorem dX12_isIn_5 : decode cX12_isIn 5 = .ok (.iload_n 1, 1) := by decide +kernel
theorem dX12_isIn_6 : decode cX12_isIn 6 = .ok (.iload_n 3, 1) := by decide +kernel
theorem dX12_isIn_7 : decode cX12_isIn 7 = .ok (.if_icmp .gt 7, 3) := by decide +kernel
theorem dX12_isIn_10 : decode cX12_isIn 10 = .ok (.iconst 1, 1) := by decide +kernel
theorem dX12_isIn_11 : decode cX12_isIn 11 = .ok (.goto 4, 3) := by decide +kernel
theorem dX12_isIn_14 : decode cX12_isIn 14 = .ok (.iconst 0, 1) := by decide +kernel
theorem dX12_isIn_15 : decode cX12_isIn 15 = .ok (.ireturn, 1) := by decide +kernel
theorem dX12_held_0 : decode cX12_held 0 = .ok (.iload_n 1, 1) := by decide +kernel
theorem dX12_held_1 : decode cX12_held 1 = .ok (.iload_n 2, 1) := by decide +kernel
theorem dX12_held_2 : decode cX12_held 2 = .ok (.if_icmp .ge 7, 3) := by decide +kernel
theorem dX12_held_5 : decode cX12_held 5 = .ok (.iload_n 2, 1) := by decide +kernel
theorem dX12_held_6 : decode cX12_held 6 = .ok (.goto 13, 3) := by decide +kernel
theorem dX12_held_9 : decode cX12_held 9 = .ok (.iload_n 1, 1) := by decide +kernel
theorem dX12_held_10 : decode cX12_held 10 = .ok (.iload_n 3, 1) := by decide +kernel
theorem dX12_held_11 : decode cX12_held 11 = .ok (.if_icmp .le 7, 3) := by decide +kernel
theorem dX12_held_14 : decode cX12_held 14 = .ok (.iload_n 3, 1) := by decide +kernel
theorem dX12_held_15 : decode cX12_held 15 = .ok (.goto 4, 3) := by decide +kernel
theorem dX12_held_18 : decode cX12_held 18 = .ok (.iload_n 1, 1) := by decide +kernel
theorem dX12_held_19 : decode cX12_held 19 = .ok (.ireturn, 1) := by decide +kernel
theorem dX12_greater_0 : decode cX12_greater 0 = .ok (.iload_n 1, 1) := by decide +kernel
theorem dX12_greater_1 : decode cX12_greater 1 = .ok (.iload_n 2, 1) := by decide +kernel
theorem dX12_greater_2 : decode cX12_greater 2 = .ok (.if_icmp .le 7, 3) := by decide +kernel
theorem dX12_greater_5 : decode cX12_greater 5 = .ok (.iload_n 1, 1) := by decide +kernel
theorem dX12_greater_6 : decode cX12_greater 6 = .ok (.goto 4, 3) := by decide +kernel
theorem dX12_greater_9 : decode cX12_greater 9 = .ok (.iload_n 2, 1) := by decide +kernel
theorem dX12_greater_10 : decode cX12_greater 10 = .ok (.ireturn, 1) := by decide +kernel
theorem dX12_onesOf_0 : decode cX12_onesOf 0 = .ok (.iconst 0, 1) := by decide +kernel
theorem dX12_onesOf_1 : decode cX12_onesOf 1 = .ok (.istore_n 2, 1) := by decide +kernel
theorem dX12_onesOf_2 : decode cX12_onesOf 2 = .ok (.iload_n 1, 1) := by decide +kernel
theorem dX12_onesOf_3 : decode cX12_onesOf 3 = .ok (.istore_n 3, 1) := by decide +kernel
theorem dX12_onesOf_4 : decode cX12_onesOf 4 = .ok (.iload_n 3, 1) := by decide +kernel
theorem dX12_onesOf_5 : decode cX12_onesOf 5 = .ok (.ifCond .eq 16, 3) := by decide +kernel
theorem dX12_onesOf_8 : decode cX12_onesOf 8 = .ok (.iload_n 2, 1) := by decide +kernel
theorem dX12_onesOf_9 : decode cX12_onesOf 9 = .ok (.iconst 1, 1) := by decide +kernel
theorem dX12_onesOf_10 : decode cX12_onesOf 10 = .ok (.iadd, 1) := by decide +kernel
theorem dX12_onesOf_11 : decode cX12_onesOf 11 = .ok (.istore_n 2, 1) := by decide +kernel
theorem dX12_onesOf_12 : decode cX12_onesOf 12 = .ok (.iload_n 3, 1) := by decide +kernel
theorem dX12_onesOf_13 : decode cX12_onesOf 13 = .ok (.iload_n 3, 1) := by decide +kernel
theorem dX12_onesOf_14 : decode cX12_onesOf 14 = .ok (.iconst 1, 1) := by decide +kernel
theorem dX12_onesOf_15 : decode cX12_onesOf 15 = .ok (.isub, 1) := by decide +kernel
theorem dX12_onesOf_16 : decode cX12_onesOf 16 = .ok (.iand, 1) := by decide +kernel
theorem dX12_onesOf_17 : decode cX12_onesOf 17 = .ok (.istore_n 3, 1) := by decide +kernel
theorem dX12_onesOf_18 : decode cX12_onesOf 18 = .ok (.goto (-14), 3) := by decide +kernel
theorem dX12_onesOf_21 : decode cX12_onesOf 21 = .ok (.iload_n 2, 1) := by decide +kernel
theorem dX12_onesOf_22 : decode cX12_onesOf 22 = .ok (.ireturn, 1) := by decide +kernel
theorem dX12_keepsAhead_0 : decode cX12_keepsAhead 0 = .ok (.aload_n 0, 1) := by decide +kernel
theorem dX12_keepsAhead_1 : decode cX12_keepsAhead 1 = .ok (.getfield 116, 3) := by decide +kernel
theorem dX12_keepsAhead_4 : decode cX12_keepsAhead 4 = .ok (.bipush 6, 2) := by decide +kernel
theorem dX12_keepsAhead_6 : decode cX12_keepsAhead 6 = .ok (.if_icmp .ne 47, 3) := by decide +kernel
theorem dX12_keepsAhead_9 : decode cX12_keepsAhead 9 = .ok (.aload_n 0, 1) := by decide +kernel
theorem dX12_keepsAhead_10 : decode cX12_keepsAhead 10 = .ok (.aload_n 0, 1) := by decide +kernel
theorem dX12_keepsAhead_11 : decode cX12_keepsAhead 11 = .ok (.getfield 116, 3) := by decide +kernel
theorem dX12_keepsAhead_14 : decode cX12_keepsAhead 14 = .ok (.iconst 1, 1) := by decide +kernel
theorem dX12_keepsAhead_15 : decode cX12_keepsAhead 15 = .ok (.isub, 1) := by decide +kernel
theorem dX12_keepsAhead_16 : decode cX12_keepsAhead 16 = .ok (.putfield 116, 3) := by decide +kernel
theorem dX12_keepsAhead_19 : decode cX12_keepsAhead 19 = .ok (.iconst 0, 1) := by decide +kernel
theorem dX12_keepsAhead_20 : decode cX12_keepsAhead 20 = .ok (.istore_n 1, 1) := by decide +kernel
theorem dX12_keepsAhead_21 : decode cX12_keepsAhead 21 = .ok (.iload_n 1, 1) := by decide +kernel
theorem dX12_keepsAhead_22 : decode cX12_keepsAhead 22 = .ok (.bipush 100, 2) := by decide +kernel
theorem dX12_keepsAhead_24 : decode cX12_keepsAhead 24 = .ok (.aload_n 0, 1) := by decide +kernel
theorem dX12_keepsAhead_25 : decode cX12_keepsAhead 25 = .ok (.getfield 116, 3) := by decide +kernel
theorem dX12_keepsAhead_28 : decode cX12_keepsAhead 28 = .ok (.imul, 1) := by decide +kernel
theorem dX12_keepsAhead_29 : decode cX12_keepsAhead 29 = .ok (.if_icmp .ge 24, 3) := by decide +kernel
theorem dX12_keepsAhead_32 : decode cX12_keepsAhead 32 = .ok (.aload_n 0, 1) := by decide +kernel
theorem dX12_keepsAhead_33 : decode cX12_keepsAhead 33 = .ok (.getfield 13, 3) := by decide +kernel
theorem dX12_keepsAhead_36 : decode cX12_keepsAhead 36 = .ok (.iload_n 1, 1) := by decide +kernel
theorem dX12_keepsAhead_37 : decode cX12_keepsAhead 37 = .ok (.aload_n 0, 1) := by decide +kernel
theorem dX12_keepsAhead_38 : decode cX12_keepsAhead 38 = .ok (.getfield 13, 3) := by decide +kernel
theorem dX12_keepsAhead_41 : decode cX12_keepsAhead 41 = .ok (.iload_n 1, 1) := by decide +kernel
theorem dX12_keepsAhead_42 : decode cX12_keepsAhead 42 = .ok (.bipush 100, 2) := by decide +kernel
theorem dX12_keepsAhead_44 : decode cX12_keepsAhead 44 = .ok (.iadd, 1) := by decide +kernel
theorem dX12_keepsAhead_45 : decode cX12_keepsAhead 45 = .ok (.iaload, 1) := by decide +kernel
theorem dX12_keepsAhead_46 : decode cX12_keepsAhead 46 = .ok (.iastore, 1) := by decide +kernel
theorem dX12_keepsAhead_47 : decode cX12_keepsAhead 47 = .ok (.iinc 1 1, 3) := by decide +kernel
theorem dX12_keepsAhead_50 : decode cX12_keepsAhead 50 = .ok (.goto (-29), 3) := by decide +kernel
theorem dX12_keepsAhead_53 : decode cX12_keepsAhead 53 = .ok (.iconst 0, 1) := by decide +kernel
theorem dX12_keepsAhead_54 : decode cX12_keepsAhead 54 = .ok (.istore_n 1, 1) := by decide +kernel
theorem dX12_keepsAhead_55 : decode cX12_keepsAhead 55 = .ok (.iload_n 1, 1) := by decide +kernel
theorem dX12_keepsAhead_56 : decode cX12_keepsAhead 56 = .ok (.bipush 100, 2) := by decide +kernel
theorem dX12_keepsAhead_58 : decode cX12_keepsAhead 58 = .ok (.if_icmp .ge 29, 3) := by decide +kernel
theorem dX12_keepsAhead_61 : decode cX12_keepsAhead 61 = .ok (.aload_n 0, 1) := by decide +kernel
theorem dX12_keepsAhead_62 : decode cX12_keepsAhead 62 = .ok (.getfield 13, 3) := by decide +kernel
theorem dX12_keepsAhead_65 : decode cX12_keepsAhead 65 = .ok (.bipush 100, 2) := by decide +kernel
theorem dX12_keepsAhead_67 : decode cX12_keepsAhead 67 = .ok (.aload_n 0, 1) := by decide +kernel
theorem dX12_keepsAhead_68 : decode cX12_keepsAhead 68 = .ok (.getfield 116, 3) := by decide +kernel
theorem dX12_keepsAhead_71 : decode cX12_keepsAhead 71 = .ok (.imul, 1) := by decide +kernel
theorem dX12_keepsAhead_72 : decode cX12_keepsAhead 72 = .ok (.iload_n 1, 1) := by decide +kernel
theorem dX12_keepsAhead_73 : decode cX12_keepsAhead 73 = .ok (.iadd, 1) := by decide +kernel
theorem dX12_keepsAhead_74 : decode cX12_keepsAhead 74 = .ok (.aload_n 0, 1) := by decide +kernel
theorem dX12_keepsAhead_75 : decode cX12_keepsAhead 75 = .ok (.getfield 7, 3) := by decide +kernel
theorem dX12_keepsAhead_78 : decode cX12_keepsAhead 78 = .ok (.iload_n 1, 1) := by decide +kernel
theorem dX12_keepsAhead_79 : decode cX12_keepsAhead 79 = .ok (.iaload, 1) := by decide +kernel
theorem dX12_keepsAhead_80 : decode cX12_keepsAhead 80 = .ok (.iastore, 1) := by decide +kernel
theorem dX12_keepsAhead_81 : decode cX12_keepsAhead 81 = .ok (.iinc 1 1, 3) := by decide +kernel
theorem dX12_keepsAhead_84 : decode cX12_keepsAhead 84 = .ok (.goto (-29), 3) := by decide +kernel
theorem dX12_keepsAhead_87 : decode cX12_keepsAhead 87 = .ok (.aload_n 0, 1) := by decide +kernel
theorem dX12_keepsAhead_88 : decode cX12_keepsAhead 88 = .ok (.aload_n 0, 1) := by decide +kernel
theorem dX12_keepsAhead_89 : decode cX12_keepsAhead 89 = .ok (.getfield 116, 3) := by decide +kernel
theorem dX12_keepsAhead_92 : decode cX12_keepsAhead 92 = .ok (.iconst 1, 1) := by decide +kernel
theorem dX12_keepsAhead_93 : decode cX12_keepsAhead 93 = .ok (.iadd, 1) := by decide +kernel
theorem dX12_keepsAhead_94 : decode cX12_keepsAhead 94 = .ok (.putfield 116, 3) := by decide +kernel
theorem dX12_keepsAhead_97 : decode cX12_keepsAhead 97 = .ok (.return_, 1) := by decide +kernel
theorem dX12_undo_0 : decode cX12_undo 0 = .ok (.aload_n 0, 1) := by decide +kernel
theorem dX12_undo_1 : decode cX12_undo 1 = .ok (.iconst 0, 1) := by decide +kernel
theorem dX12_undo_2 : decode cX12_undo 2 = .ok (.putfield 113, 3) := by decide +kernel
theorem dX12_undo_5 : decode cX12_undo 5 = .ok (.aload_n 0, 1) := by decide +kernel
theorem dX12_undo_6 : decode cX12_undo 6 = .ok (.getfield 116, 3) := by decide +kernel
theorem dX12_undo_9 : decode cX12_undo 9 = .ok (.ifCond .ne 5, 3) := by decide +kernel
theorem dX12_undo_12 : decode cX12_undo 12 = .ok (.iconst 0, 1) := by decide +kernel
theorem dX12_undo_13 : decode cX12_undo 13 = .ok (.ireturn, 1) := by decide +kernel
theorem dX12_undo_14 : decode cX12_undo 14 = .ok (.aload_n 0, 1) := by decide +kernel
theorem dX12_undo_15 : decode cX12_undo 15 = .ok (.aload_n 0, 1) := by decide +kernel
theorem dX12_undo_16 : decode cX12_undo 16 = .ok (.getfield 116, 3) := by decide +kernel
theorem dX12_undo_19 : decode cX12_undo 19 = .ok (.iconst 1, 1) := by decide +kernel
theorem dX12_undo_20 : decode cX12_undo 20 = .ok (.isub, 1) := by decide +kernel
theorem dX12_undo_21 : decode cX12_undo 21 = .ok (.putfield 116, 3) := by decide +kernel
theorem dX12_undo_24 : decode cX12_undo 24 = .ok (.iconst 0, 1) := by decide +kernel
theorem dX12_undo_25 : decode cX12_undo 25 = .ok (.istore_n 1, 1) := by decide +kernel
theorem dX12_undo_26 : decode cX12_undo 26 = .ok (.iload_n 1, 1) := by decide +kernel
theorem dX12_undo_27 : decode cX12_undo 27 = .ok (.bipush 100, 2) := by decide +kernel
theorem dX12_undo_29 : decode cX12_undo 29 = .ok (.if_icmp .ge 29, 3) := by decide +kernel
theorem dX12_undo_32 : decode cX12_undo 32 = .ok (.aload_n 0, 1) := by decide +kernel
theorem dX12_undo_33 : decode cX12_undo 33 = .ok (.getfield 7, 3) := by decide +kernel
theorem dX12_undo_36 : decode cX12_undo 36 = .ok (.iload_n 1, 1) := by decide +kernel
theorem dX12_undo_37 : decode cX12_undo 37 = .ok (.aload_n 0, 1) := by decide +kernel
theorem dX12_undo_38 : decode cX12_undo 38 = .ok (.getfield 13, 3) := by decide +kernel
theorem dX12_undo_41 : decode cX12_undo 41 = .ok (.bipush 100, 2) := by decide +kernel
theorem dX12_undo_43 : decode cX12_undo 43 = .ok (.aload_n 0, 1) := by decide +kernel
theorem dX12_undo_44 : decode cX12_undo 44 = .ok (.getfield 116, 3) := by decide +kernel
theorem dX12_undo_47 : decode cX12_undo 47 = .ok (.imul, 1) := by decide +kernel
theorem dX12_undo_48 : decode cX12_undo 48 = .ok (.iload_n 1, 1) := by decide +kernel
theorem dX12_undo_49 : decode cX12_undo 49 = .ok (.iadd, 1) := by decide +kernel
theorem dX12_undo_50 : decode cX12_undo 50 = .ok (.iaload, 1) := by decide +kernel
theorem dX12_undo_51 : decode cX12_undo 51 = .ok (.iastore, 1) := by decide +kernel
theorem dX12_undo_52 : decode cX12_undo 52 = .ok (.iinc 1 1, 3) := by decide +kernel
theorem dX12_undo_55 : decode cX12_undo 55 = .ok (.goto (-29), 3) := by decide +kernel
theorem dX12_undo_58 : decode cX12_undo 58 = .ok (.iconst 1, 1) := by decide +kernel
theorem dX12_undo_59 : decode cX12_undo 59 = .ok (.ireturn, 1) := by decide +kernel
theorem dX12_thinks_0 : decode cX12_thinks 0 = .ok (.iconst 0, 1) := by decide +kernel
theorem dX12_thinks_1 : decode cX12_thinks 1 = .ok (.istore_n 1, 1) := by decide +kernel
theorem dX12_thinks_2 : decode cX12_thinks 2 = .ok (.iload_n 1, 1) := by decide +kernel
theorem dX12_thinks_3 : decode cX12_thinks 3 = .ok (.bipush 100, 2) := by decide +kernel
theorem dX12_thinks_5 : decode cX12_thinks 5 = .ok (.if_icmp .ge 21, 3) := by decide +kernel
theorem dX12_thinks_8 : decode cX12_thinks 8 = .ok (.aload_n 0, 1) := by decide +kernel
theorem dX12_thinks_9 : decode cX12_thinks 9 = .ok (.getfield 16, 3) := by decide +kernel
theorem dX12_thinks_12 : decode cX12_thinks 12 = .ok (.iload_n 1, 1) := by decide +kernel
theorem dX12_thinks_13 : decode cX12_thinks 13 = .ok (.aload_n 0, 1) := by decide +kernel
theorem dX12_thinks_14 : decode cX12_thinks 14 = .ok (.getfield 7, 3) := by decide +kernel
theorem dX12_thinks_17 : decode cX12_thinks 17 = .ok (.iload_n 1, 1) := by decide +kernel
theorem dX12_thinks_18 : decode cX12_thinks 18 = .ok (.iaload, 1) := by decide +kernel
theorem dX12_thinks_19 : decode cX12_thinks 19 = .ok (.iastore, 1) := by decide +kernel
theorem dX12_thinks_20 : decode cX12_thinks 20 = .ok (.iinc 1 1, 3) := by decide +kernel
theorem dX12_thinks_23 : decode cX12_thinks 23 = .ok (.goto (-21), 3) := by decide +kernel
theorem dX12_thinks_26 : decode cX12_thinks 26 = .ok (.aload_n 0, 1) := by decide +kernel
theorem dX12_thinks_27 : decode cX12_thinks 27 = .ok (.iconst 1, 1) := by decide +kernel
theorem dX12_thinks_28 : decode cX12_thinks 28 = .ok (.putfield 119, 3) := by decide +kernel
theorem dX12_thinks_31 : decode cX12_thinks 31 = .ok (.return_, 1) := by decide +kernel
theorem dX12_thinksAnew_0 : decode cX12_thinksAnew 0 = .ok (.iconst 0, 1) := by decide +kernel
theorem dX12_thinksAnew_1 : decode cX12_thinksAnew 1 = .ok (.istore_n 1, 1) := by decide +kernel
theorem dX12_thinksAnew_2 : decode cX12_thinksAnew 2 = .ok (.iload_n 1, 1) := by decide +kernel
theorem dX12_thinksAnew_3 : decode cX12_thinksAnew 3 = .ok (.bipush 100, 2) := by decide +kernel
theorem dX12_thinksAnew_5 : decode cX12_thinksAnew 5 = .ok (.if_icmp .ge 21, 3) := by decide +kernel
theorem dX12_thinksAnew_8 : decode cX12_thinksAnew 8 = .ok (.aload_n 0, 1) := by decide +kernel
theorem dX12_thinksAnew_9 : decode cX12_thinksAnew 9 = .ok (.getfield 7, 3) := by decide +kernel
theorem dX12_thinksAnew_12 : decode cX12_thinksAnew 12 = .ok (.iload_n 1, 1) := by decide +kernel
theorem dX12_thinksAnew_13 : decode cX12_thinksAnew 13 = .ok (.aload_n 0, 1) := by decide +kernel
theorem dX12_thinksAnew_14 : decode cX12_thinksAnew 14 = .ok (.getfield 16, 3) := by decide +kernel
theorem dX12_thinksAnew_17 : decode cX12_thinksAnew 17 = .ok (.iload_n 1, 1) := by decide +kernel
theorem dX12_thinksAnew_18 : decode cX12_thinksAnew 18 = .ok (.iaload, 1) := by decide +kernel
theorem dX12_thinksAnew_19 : decode cX12_thinksAnew 19 = .ok (.iastore, 1) := by decide +kernel
theorem dX12_thinksAnew_20 : decode cX12_thinksAnew 20 = .ok (.iinc 1 1, 3) := by decide +kernel
theorem dX12_thinksAnew_23 : decode cX12_thinksAnew 23 = .ok (.goto (-21), 3) := by decide +kernel
theorem dX12_thinksAnew_26 : decode cX12_thinksAnew 26 = .ok (.return_, 1) := by decide +kernel
theorem dX12_endsThought_0 : decode cX12_endsThought 0 = .ok (.aload_n 0, 1) := by decide +kernel
theorem dX12_endsThought_1 : decode cX12_endsThought 1 = .ok (.invokevirtual 123, 3) := by decide +kernel
theorem dX12_endsThought_4 : decode cX12_endsThought 4 = .ok (.aload_n 0, 1) := by decide +kernel
theorem dX12_endsThought_5 : decode cX12_endsThought 5 = .ok (.iconst 0, 1) := by decide +kernel
theorem dX12_endsThought_6 : decode cX12_endsThought 6 = .ok (.putfield 119, 3) := by decide +kernel
theorem dX12_endsThought_9 : decode cX12_endsThought 9 = .ok (.return_, 1) := by decide +kernel
theorem dX12_state_0 : decode cX12_state 0 = .ok (.aload_n 0, 1) := by decide +kernel
theorem dX12_state_1 : decode cX12_state 1 = .ok (.iconst 0, 1) := by decide +kernel
theorem dX12_state_2 : decode cX12_state 2 = .ok (.putfield 113, 3) := by decide +kernel
theorem dX12_state_5 : decode cX12_state 5 = .ok (.aload_n 0, 1) := by decide +kernel
theorem dX12_state_6 : decode cX12_state 6 = .ok (.getfield 7, 3) := by decide +kernel
theorem dX12_state_9 : decode cX12_state 9 = .ok (.iconst 1, 1) := by decide +kernel
theorem dX12_state_10 : decode cX12_state 10 = .ok (.iaload, 1) := by decide +kernel
theorem dX12_state_11 : decode cX12_state 11 = .ok (.istore_n 2, 1) := by decide +kernel
theorem dX12_state_12 : decode cX12_state 12 = .ok (.aload_n 0, 1) := by decide +kernel
theorem dX12_state_13 : decode cX12_state 13 = .ok (.getfield 7, 3) := by decide +kernel
theorem dX12_state_16 : decode cX12_state 16 = .ok (.iconst 1, 1) := by decide +kernel
theorem dX12_state_17 : decode cX12_state 17 = .ok (.iload_n 1, 1) := by decide +kernel
theorem dX12_state_18 : decode cX12_state 18 = .ok (.iastore, 1) := by decide +kernel
theorem dX12_state_19 : decode cX12_state 19 = .ok (.aload_n 0, 1) := by decide +kernel
theorem dX12_state_20 : decode cX12_state 20 = .ok (.iconst 0, 1) := by decide +kernel
theorem dX12_state_21 : decode cX12_state 21 = .ok (.putfield 116, 3) := by decide +kernel
theorem dX12_state_24 : decode cX12_state 24 = .ok (.iload_n 2, 1) := by decide +kernel
theorem dX12_state_25 : decode cX12_state 25 = .ok (.ireturn, 1) := by decide +kernel
theorem dX12_draw_0 : decode cX12_draw 0 = .ok (.aload_n 0, 1) := by decide +kernel
theorem dX12_draw_1 : decode cX12_draw 1 = .ok (.getfield 7, 3) := by decide +kernel
theorem dX12_draw_4 : decode cX12_draw 4 = .ok (.iconst 1, 1) := by decide +kernel
theorem dX12_draw_5 : decode cX12_draw 5 = .ok (.ldc 126, 2) := by decide +kernel
theorem dX12_draw_7 : decode cX12_draw 7 = .ok (.aload_n 0, 1) := by decide +kernel
theorem dX12_draw_8 : decode cX12_draw 8 = .ok (.getfield 7, 3) := by decide +kernel
theorem dX12_draw_11 : decode cX12_draw 11 = .ok (.iconst 1, 1) := by decide +kernel
theorem dX12_draw_12 : decode cX12_draw 12 = .ok (.iaload, 1) := by decide +kernel
theorem dX12_draw_13 : decode cX12_draw 13 = .ok (.imul, 1) := by decide +kernel
theorem dX12_draw_14 : decode cX12_draw 14 = .ok (.ldc 127, 2) := by decide +kernel
theorem dX12_draw_16 : decode cX12_draw 16 = .ok (.iadd, 1) := by decide +kernel
theorem dX12_draw_17 : decode cX12_draw 17 = .ok (.iastore, 1) := by decide +kernel
theorem dX12_draw_18 : decode cX12_draw 18 = .ok (.aload_n 0, 1) := by decide +kernel
theorem dX12_draw_19 : decode cX12_draw 19 = .ok (.getfield 7, 3) := by decide +kernel
theorem dX12_draw_22 : decode cX12_draw 22 = .ok (.iconst 1, 1) := by decide +kernel
theorem dX12_draw_23 : decode cX12_draw 23 = .ok (.iaload, 1) := by decide +kernel
theorem dX12_draw_24 : decode cX12_draw 24 = .ok (.bipush 8, 2) := by decide +kernel
theorem dX12_draw_26 : decode cX12_draw 26 = .ok (.iushr, 1) := by decide +kernel
theorem dX12_draw_27 : decode cX12_draw 27 = .ok (.iload_n 1, 1) := by decide +kernel
theorem dX12_draw_28 : decode cX12_draw 28 = .ok (.irem, 1) := by decide +kernel
theorem dX12_draw_29 : decode cX12_draw 29 = .ok (.ireturn, 1) := by decide +kernel
theorem dX12_most_0 : decode cX12_most 0 = .ok (.aload_n 0, 1) := by decide +kernel
theorem dX12_most_1 : decode cX12_most 1 = .ok (.getfield 128, 3) := by decide +kernel
theorem dX12_most_4 : decode cX12_most 4 = .ok (.iconst 3, 1) := by decide +kernel
theorem dX12_most_5 : decode cX12_most 5 = .ok (.iadd, 1) := by decide +kernel
theorem dX12_most_6 : decode cX12_most 6 = .ok (.ireturn, 1) := by decide +kernel
theorem dX12_isHouse_0 : decode cX12_isHouse 0 = .ok (.iload_n 1, 1) := by decide +kernel
theorem dX12_isHouse_1 : decode cX12_isHouse 1 = .ok (.ifCond .lt 15, 3) := by decide +kernel
theorem dX12_isHouse_4 : decode cX12_isHouse 4 = .ok (.iload_n 1, 1) := by decide +kernel
theorem dX12_isHouse_5 : decode cX12_isHouse 5 = .ok (.aload_n 0, 1) := by decide +kernel
theorem dX12_isHouse_6 : decode cX12_isHouse 6 = .ok (.getfield 131, 3) := by decide +kernel
theorem dX12_isHouse_9 : decode cX12_isHouse 9 = .ok (.if_icmp .ge 7, 3) := by decide +kernel
theorem dX12_isHouse_12 : decode cX12_isHouse 12 = .ok (.iconst 1, 1) := by decide +kernel
theorem dX12_isHouse_13 : decode cX12_isHouse 13 = .ok (.goto 4, 3) := by decide +kernel
theorem dX12_isHouse_16 : decode cX12_isHouse 16 = .ok (.iconst 0, 1) := by decide +kernel
theorem dX12_isHouse_17 : decode cX12_isHouse 17 = .ok (.ireturn, 1) := by decide +kernel
theorem dX12_isThing_0 : decode cX12_isThing 0 = .ok (.iload_n 1, 1) := by decide +kernel
theorem dX12_isThing_1 : decode cX12_isThing 1 = .ok (.ifCond .lt 13, 3) := by decide +kernel
theorem dX12_isThing_4 : decode cX12_isThing 4 = .ok (.iload_n 1, 1) := by decide +kernel
theorem dX12_isThing_5 : decode cX12_isThing 5 = .ok (.bipush 8, 2) := by decide +kernel
theorem dX12_isThing_7 : decode cX12_isThing 7 = .ok (.if_icmp .ge 7, 3) := by decide +kernel
theorem dX12_isThing_10 : decode cX12_isThing 10 = .ok (.iconst 1, 1) := by decide +kernel
theorem dX12_isThing_11 : decode cX12_isThing 11 = .ok (.goto 4, 3) := by decide +kernel
theorem dX12_isThing_14 : decode cX12_isThing 14 = .ok (.iconst 0, 1) := by decide +kernel
theorem dX12_isThing_15 : decode cX12_isThing 15 = .ok (.ireturn, 1) := by decide +kernel
theorem dX12_degreeOf_0 : decode cX12_degreeOf 0 = .ok (.aload_n 0, 1) := by decide +kernel
theorem dX12_degreeOf_1 : decode cX12_degreeOf 1 = .ok (.getfield 7, 3) := by decide +kernel
theorem dX12_degreeOf_4 : decode cX12_degreeOf 4 = .ok (.iconst 4, 1) := by decide +kernel
theorem dX12_degreeOf_5 : decode cX12_degreeOf 5 = .ok (.bipush 8, 2) := by decide +kernel
theorem dX12_degreeOf_7 : decode cX12_degreeOf 7 = .ok (.iload_n 1, 1) := by decide +kernel
theorem dX12_degreeOf_8 : decode cX12_degreeOf 8 = .ok (.imul, 1) := by decide +kernel
theorem dX12_degreeOf_9 : decode cX12_degreeOf 9 = .ok (.iadd, 1) := by decide +kernel
theorem dX12_degreeOf_10 : decode cX12_degreeOf 10 = .ok (.iload_n 2, 1) := by decide +kernel
theorem dX12_degreeOf_11 : decode cX12_degreeOf 11 = .ok (.iadd, 1) := by decide +kernel
theorem dX12_degreeOf_12 : decode cX12_degreeOf 12 = .ok (.iaload, 1) := by decide +kernel
theorem dX12_degreeOf_13 : decode cX12_degreeOf 13 = .ok (.bipush 50, 2) := by decide +kernel
theorem dX12_degreeOf_15 : decode cX12_degreeOf 15 = .ok (.iadd, 1) := by decide +kernel
theorem dX12_degreeOf_16 : decode cX12_degreeOf 16 = .ok (.ireturn, 1) := by decide +kernel
theorem dX12_degreeBe_0 : decode cX12_degreeBe 0 = .ok (.aload_n 0, 1) := by decide +kernel
theorem dX12_degreeBe_1 : decode cX12_degreeBe 1 = .ok (.getfield 7, 3) := by decide +kernel
theorem dX12_degreeBe_4 : decode cX12_degreeBe 4 = .ok (.iconst 4, 1) := by decide +kernel
theorem dX12_degreeBe_5 : decode cX12_degreeBe 5 = .ok (.bipush 8, 2) := by decide +kernel
theorem dX12_degreeBe_7 : decode cX12_degreeBe 7 = .ok (.iload_n 1, 1) := by decide +kernel
theorem dX12_degreeBe_8 : decode cX12_degreeBe 8 = .ok (.imul, 1) := by decide +kernel
theorem dX12_degreeBe_9 : decode cX12_degreeBe 9 = .ok (.iadd, 1) := by decide +kernel
theorem dX12_degreeBe_10 : decode cX12_degreeBe 10 = .ok (.iload_n 2, 1) := by decide +kernel
theorem dX12_degreeBe_11 : decode cX12_degreeBe 11 = .ok (.iadd, 1) := by decide +kernel
theorem dX12_degreeBe_12 : decode cX12_degreeBe 12 = .ok (.iload_n 3, 1) := by decide +kernel
theorem dX12_degreeBe_13 : decode cX12_degreeBe 13 = .ok (.bipush 50, 2) := by decide +kernel
theorem dX12_degreeBe_15 : decode cX12_degreeBe 15 = .ok (.isub, 1) := by decide +kernel
theorem dX12_degreeBe_16 : decode cX12_degreeBe 16 = .ok (.iastore, 1) := by decide +kernel
theorem dX12_degreeBe_17 : decode cX12_degreeBe 17 = .ok (.return_, 1) := by decide +kernel
theorem dX12_suresOf_0 : decode cX12_suresOf 0 = .ok (.iconst 0, 1) := by decide +kernel
theorem dX12_suresOf_1 : decode cX12_suresOf 1 = .ok (.istore_n 2, 1) := by decide +kernel
theorem dX12_suresOf_2 : decode cX12_suresOf 2 = .ok (.iconst 0, 1) := by decide +kernel
theorem dX12_suresOf_3 : decode cX12_suresOf 3 = .ok (.istore_n 3, 1) := by decide +kernel
theorem dX12_suresOf_4 : decode cX12_suresOf 4 = .ok (.iload_n 3, 1) := by decide +kernel
theorem dX12_suresOf_5 : decode cX12_suresOf 5 = .ok (.bipush 8, 2) := by decide +kernel
theorem dX12_suresOf_7 : decode cX12_suresOf 7 = .ok (.if_icmp .ge 26, 3) := by decide +kernel
theorem dX12_suresOf_10 : decode cX12_suresOf 10 = .ok (.aload_n 0, 1) := by decide +kernel
theorem dX12_suresOf_11 : decode cX12_suresOf 11 = .ok (.iload_n 1, 1) := by decide +kernel
theorem dX12_suresOf_12 : decode cX12_suresOf 12 = .ok (.iload_n 3, 1) := by decide +kernel
theorem dX12_suresOf_13 : decode cX12_suresOf 13 = .ok (.invokevirtual 134, 3) := by decide +kernel
theorem dX12_suresOf_16 : decode cX12_suresOf 16 = .ok (.bipush 90, 2) := by decide +kernel
theorem dX12_suresOf_18 : decode cX12_suresOf 18 = .ok (.if_icmp .lt 9, 3) := by decide +kernel
theorem dX12_suresOf_21 : decode cX12_suresOf 21 = .ok (.iload_n 2, 1) := by decide +kernel
theorem dX12_suresOf_22 : decode cX12_suresOf 22 = .ok (.iconst 1, 1) := by decide +kernel
theorem dX12_suresOf_23 : decode cX12_suresOf 23 = .ok (.iload_n 3, 1) := by decide +kernel
theorem dX12_suresOf_24 : decode cX12_suresOf 24 = .ok (.ishl, 1) := by decide +kernel
theorem dX12_suresOf_25 : decode cX12_suresOf 25 = .ok (.ior, 1) := by decide +kernel
theorem dX12_suresOf_26 : decode cX12_suresOf 26 = .ok (.istore_n 2, 1) := by decide +kernel
theorem dX12_suresOf_27 : decode cX12_suresOf 27 = .ok (.iinc 3 1, 3) := by decide +kernel
theorem dX12_suresOf_30 : decode cX12_suresOf 30 = .ok (.goto (-26), 3) := by decide +kernel
theorem dX12_suresOf_33 : decode cX12_suresOf 33 = .ok (.iload_n 2, 1) := by decide +kernel
theorem dX12_suresOf_34 : decode cX12_suresOf 34 = .ok (.ireturn, 1) := by decide +kernel
theorem dX12_potOf_0 : decode cX12_potOf 0 = .ok (.aload_n 0, 1) := by decide +kernel
theorem dX12_potOf_1 : decode cX12_potOf 1 = .ok (.getfield 7, 3) := by decide +kernel
theorem dX12_potOf_4 : decode cX12_potOf 4 = .ok (.bipush 68, 2) := by decide +kernel
theorem dX12_potOf_6 : decode cX12_potOf 6 = .ok (.iload_n 1, 1) := by decide +kernel
theorem dX12_potOf_7 : decode cX12_potOf 7 = .ok (.iadd, 1) := by decide +kernel
theorem dX12_potOf_8 : decode cX12_potOf 8 = .ok (.iaload, 1) := by decide +kernel
theorem dX12_potOf_9 : decode cX12_potOf 9 = .ok (.iconst 1, 1) := by decide +kernel
theorem dX12_potOf_10 : decode cX12_potOf 10 = .ok (.isub, 1) := by decide +kernel
theorem dX12_potOf_11 : decode cX12_potOf 11 = .ok (.ireturn, 1) := by decide +kernel
theorem dX12_house_0 : decode cX12_house 0 = .ok (.aload_n 0, 1) := by decide +kernel
theorem dX12_house_1 : decode cX12_house 1 = .ok (.iconst 0, 1) := by decide +kernel
theorem dX12_house_2 : decode cX12_house 2 = .ok (.putfield 113, 3) := by decide +kernel
theorem dX12_house_5 : decode cX12_house 5 = .ok (.aload_n 0, 1) := by decide +kernel
theorem dX12_house_6 : decode cX12_house 6 = .ok (.getfield 131, 3) := by decide +kernel
theorem dX12_house_9 : decode cX12_house 9 = .ok (.bipush 8, 2) := by decide +kernel
theorem dX12_house_11 : decode cX12_house 11 = .ok (.if_icmp .ne 5, 3) := by decide +kernel
theorem dX12_house_14 : decode cX12_house 14 = .ok (.iconst (-1), 1) := by decide +kernel
theorem dX12_house_15 : decode cX12_house 15 = .ok (.ireturn, 1) := by decide +kernel
theorem dX12_house_16 : decode cX12_house 16 = .ok (.aload_n 0, 1) := by decide +kernel
theorem dX12_house_17 : decode cX12_house 17 = .ok (.getfield 131, 3) := by decide +kernel
theorem dX12_house_20 : decode cX12_house 20 = .ok (.istore_n 1, 1) := by decide +kernel
theorem dX12_house_21 : decode cX12_house 21 = .ok (.iconst 0, 1) := by decide +kernel
theorem dX12_house_22 : decode cX12_house 22 = .ok (.istore_n 2, 1) := by decide +kernel
theorem dX12_house_23 : decode cX12_house 23 = .ok (.iload_n 2, 1) := by decide +kernel
theorem dX12_house_24 : decode cX12_house 24 = .ok (.bipush 8, 2) := by decide +kernel
theorem dX12_house_26 : decode cX12_house 26 = .ok (.if_icmp .ge 17, 3) := by decide +kernel
theorem dX12_house_29 : decode cX12_house 29 = .ok (.aload_n 0, 1) := by decide +kernel
theorem dX12_house_30 : decode cX12_house 30 = .ok (.iload_n 1, 1) := by decide +kernel
theorem dX12_house_31 : decode cX12_house 31 = .ok (.iload_n 2, 1) := by decide +kernel
theorem dX12_house_32 : decode cX12_house 32 = .ok (.bipush 50, 2) := by decide +kernel
theorem dX12_house_34 : decode cX12_house 34 = .ok (.invokevirtual 138, 3) := by decide +kernel
theorem dX12_house_37 : decode cX12_house 37 = .ok (.iinc 2 1, 3) := by decide +kernel
theorem dX12_house_40 : decode cX12_house 40 = .ok (.goto (-17), 3) := by decide +kernel
theorem dX12_house_43 : decode cX12_house 43 = .ok (.aload_n 0, 1) := by decide +kernel
theorem dX12_house_44 : decode cX12_house 44 = .ok (.getfield 7, 3) := by decide +kernel
theorem dX12_house_47 : decode cX12_house 47 = .ok (.bipush 68, 2) := by decide +kernel
theorem dX12_house_49 : decode cX12_house 49 = .ok (.iload_n 1, 1) := by decide +kernel
theorem dX12_house_50 : decode cX12_house 50 = .ok (.iadd, 1) := by decide +kernel
theorem dX12_house_51 : decode cX12_house 51 = .ok (.iconst 0, 1) := by decide +kernel
theorem dX12_house_52 : decode cX12_house 52 = .ok (.iastore, 1) := by decide +kernel
theorem dX12_house_53 : decode cX12_house 53 = .ok (.iconst 0, 1) := by decide +kernel
theorem dX12_house_54 : decode cX12_house 54 = .ok (.istore_n 2, 1) := by decide +kernel
theorem dX12_house_55 : decode cX12_house 55 = .ok (.iload_n 2, 1) := by decide +kernel
theorem dX12_house_56 : decode cX12_house 56 = .ok (.bipush 8, 2) := by decide +kernel
theorem dX12_house_58 : decode cX12_house 58 = .ok (.if_icmp .ge 27, 3) := by decide +kernel
theorem dX12_house_61 : decode cX12_house 61 = .ok (.aload_n 0, 1) := by decide +kernel
theorem dX12_house_62 : decode cX12_house 62 = .ok (.getfield 22, 3) := by decide +kernel
theorem dX12_house_65 : decode cX12_house 65 = .ok (.iload_n 2, 1) := by decide +kernel
theorem dX12_house_66 : decode cX12_house 66 = .ok (.aload_n 0, 1) := by decide +kernel
theorem dX12_house_67 : decode cX12_house 67 = .ok (.getfield 22, 3) := by decide +kernel
theorem dX12_house_70 : decode cX12_house 70 = .ok (.iload_n 2, 1) := by decide +kernel
theorem dX12_house_71 : decode cX12_house 71 = .ok (.iaload, 1) := by decide +kernel
theorem dX12_house_72 : decode cX12_house 72 = .ok (.iconst 1, 1) := by decide +kernel
theorem dX12_house_73 : decode cX12_house 73 = .ok (.iload_n 1, 1) := by decide +kernel
theorem dX12_house_74 : decode cX12_house 74 = .ok (.ishl, 1) := by decide +kernel
theorem dX12_house_75 : decode cX12_house 75 = .ok (.iconst (-1), 1) := by decide +kernel
theorem dX12_house_76 : decode cX12_house 76 = .ok (.ixor, 1) := by decide +kernel
theorem dX12_house_77 : decode cX12_house 77 = .ok (.iand, 1) := by decide +kernel
theorem dX12_house_78 : decode cX12_house 78 = .ok (.iastore, 1) := by decide +kernel
theorem dX12_house_79 : decode cX12_house 79 = .ok (.iinc 2 1, 3) := by decide +kernel
theorem dX12_house_82 : decode cX12_house 82 = .ok (.goto (-27), 3) := by decide +kernel
theorem dX12_house_85 : decode cX12_house 85 = .ok (.aload_n 0, 1) := by decide +kernel
theorem dX12_house_86 : decode cX12_house 86 = .ok (.getfield 22, 3) := by decide +kernel
theorem dX12_house_89 : decode cX12_house 89 = .ok (.iload_n 1, 1) := by decide +kernel
theorem dX12_house_90 : decode cX12_house 90 = .ok (.iconst 0, 1) := by decide +kernel
theorem dX12_house_91 : decode cX12_house 91 = .ok (.iastore, 1) := by decide +kernel
theorem dX12_house_92 : decode cX12_house 92 = .ok (.aload_n 0, 1) := by decide +kernel
theorem dX12_house_93 : decode cX12_house 93 = .ok (.aload_n 0, 1) := by decide +kernel
theorem dX12_house_94 : decode cX12_house 94 = .ok (.getfield 131, 3) := by decide +kernel
theorem dX12_house_97 : decode cX12_house 97 = .ok (.iconst 1, 1) := by decide +kernel
theorem dX12_house_98 : decode cX12_house 98 = .ok (.iadd, 1) := by decide +kernel
theorem dX12_house_99 : decode cX12_house 99 = .ok (.putfield 131, 3) := by decide +kernel
theorem dX12_house_102 : decode cX12_house 102 = .ok (.aload_n 0, 1) := by decide +kernel
theorem dX12_house_103 : decode cX12_house 103 = .ok (.iconst 0, 1) := by decide +kernel
theorem dX12_house_104 : decode cX12_house 104 = .ok (.putfield 116, 3) := by decide +kernel
theorem dX12_house_107 : decode cX12_house 107 = .ok (.iload_n 1, 1) := by decide +kernel
theorem dX12_house_108 : decode cX12_house 108 = .ok (.ireturn, 1) := by decide +kernel
theorem dX12_set_0 : decode cX12_set 0 = .ok (.aload_n 0, 1) := by decide +kernel
theorem dX12_set_1 : decode cX12_set 1 = .ok (.iconst 0, 1) := by decide +kernel
theorem dX12_set_2 : decode cX12_set 2 = .ok (.putfield 113, 3) := by decide +kernel
theorem dX12_set_5 : decode cX12_set 5 = .ok (.aload_n 0, 1) := by decide +kernel
theorem dX12_set_6 : decode cX12_set 6 = .ok (.iload_n 1, 1) := by decide +kernel
theorem dX12_set_7 : decode cX12_set 7 = .ok (.iconst 0, 1) := by decide +kernel
theorem dX12_set_8 : decode cX12_set 8 = .ok (.iconst 3, 1) := by decide +kernel
theorem dX12_set_9 : decode cX12_set 9 = .ok (.invokevirtual 142, 3) := by decide +kernel
theorem dX12_set_12 : decode cX12_set 12 = .ok (.ifCond .eq 46, 3) := by decide +kernel
theorem dX12_set_15 : decode cX12_set 15 = .ok (.aload_n 0, 1) := by decide +kernel
theorem dX12_set_16 : decode cX12_set 16 = .ok (.iload_n 3, 1) := by decide +kernel
theorem dX12_set_17 : decode cX12_set 17 = .ok (.iconst 0, 1) := by decide +kernel
theorem dX12_set_18 : decode cX12_set 18 = .ok (.iload_n 1, 1) := by decide +kernel
theorem dX12_set_19 : decode cX12_set 19 = .ok (.ifCond .ne 8, 3) := by decide +kernel
theorem dX12_set_22 : decode cX12_set 22 = .ok (.bipush 8, 2) := by decide +kernel
theorem dX12_set_24 : decode cX12_set 24 = .ok (.goto 15, 3) := by decide +kernel
theorem dX12_set_27 : decode cX12_set 27 = .ok (.iload_n 1, 1) := by decide +kernel
theorem dX12_set_28 : decode cX12_set 28 = .ok (.iconst 3, 1) := by decide +kernel
theorem dX12_set_29 : decode cX12_set 29 = .ok (.if_icmp .ne 7, 3) := by decide +kernel
theorem dX12_set_32 : decode cX12_set 32 = .ok (.iconst 5, 1) := by decide +kernel
theorem dX12_set_33 : decode cX12_set 33 = .ok (.goto 6, 3) := by decide +kernel
theorem dX12_set_36 : decode cX12_set 36 = .ok (.sipush 1000, 3) := by decide +kernel
theorem dX12_set_39 : decode cX12_set 39 = .ok (.invokevirtual 142, 3) := by decide +kernel
theorem dX12_set_42 : decode cX12_set 42 = .ok (.ifCond .eq 16, 3) := by decide +kernel
theorem dX12_set_45 : decode cX12_set 45 = .ok (.iload_n 1, 1) := by decide +kernel
theorem dX12_set_46 : decode cX12_set 46 = .ok (.iconst 3, 1) := by decide +kernel
theorem dX12_set_47 : decode cX12_set 47 = .ok (.if_icmp .ne 13, 3) := by decide +kernel
theorem dX12_set_50 : decode cX12_set 50 = .ok (.aload_n 0, 1) := by decide +kernel
theorem dX12_set_51 : decode cX12_set 51 = .ok (.iload_n 2, 1) := by decide +kernel
theorem dX12_set_52 : decode cX12_set 52 = .ok (.invokevirtual 146, 3) := by decide +kernel
theorem dX12_set_55 : decode cX12_set 55 = .ok (.ifCond .ne 5, 3) := by decide +kernel
theorem dX12_set_58 : decode cX12_set 58 = .ok (.iconst 0, 1) := by decide +kernel
theorem dX12_set_59 : decode cX12_set 59 = .ok (.ireturn, 1) := by decide +kernel
theorem dX12_set_60 : decode cX12_set 60 = .ok (.iload_n 1, 1) := by decide +kernel
theorem dX12_set_61 : decode cX12_set 61 = .ok (.ifCond .ne 10, 3) := by decide +kernel
theorem dX12_set_64 : decode cX12_set 64 = .ok (.aload_n 0, 1) := by decide +kernel
theorem dX12_set_65 : decode cX12_set 65 = .ok (.iload_n 3, 1) := by decide +kernel
theorem dX12_set_66 : decode cX12_set 66 = .ok (.iconst 3, 1) := by decide +kernel
theorem dX12_set_67 : decode cX12_set 67 = .ok (.isub, 1) := by decide +kernel
theorem dX12_set_68 : decode cX12_set 68 = .ok (.putfield 128, 3) := by decide +kernel
theorem dX12_set_71 : decode cX12_set 71 = .ok (.iload_n 1, 1) := by decide +kernel
theorem dX12_set_72 : decode cX12_set 72 = .ok (.iconst 1, 1) := by decide +kernel
theorem dX12_set_73 : decode cX12_set 73 = .ok (.if_icmp .ne 8, 3) := by decide +kernel
theorem dX12_set_76 : decode cX12_set 76 = .ok (.aload_n 0, 1) := by decide +kernel
theorem dX12_set_77 : decode cX12_set 77 = .ok (.iload_n 3, 1) := by decide +kernel
theorem dX12_set_78 : decode cX12_set 78 = .ok (.putfield 150, 3) := by decide +kernel
theorem dX12_set_81 : decode cX12_set 81 = .ok (.iload_n 1, 1) := by decide +kernel
theorem dX12_set_82 : decode cX12_set 82 = .ok (.iconst 2, 1) := by decide +kernel
theorem dX12_set_83 : decode cX12_set 83 = .ok (.if_icmp .ne 8, 3) := by decide +kernel
theorem dX12_set_86 : decode cX12_set 86 = .ok (.aload_n 0, 1) := by decide +kernel
theorem dX12_set_87 : decode cX12_set 87 = .ok (.iload_n 3, 1) := by decide +kernel
theorem dX12_set_88 : decode cX12_set 88 = .ok (.putfield 153, 3) := by decide +kernel
theorem dX12_set_91 : decode cX12_set 91 = .ok (.iload_n 1, 1) := by decide +kernel
theorem dX12_set_92 : decode cX12_set 92 = .ok (.iconst 3, 1) := by decide +kernel
theorem dX12_set_93 : decode cX12_set 93 = .ok (.if_icmp .ne 10, 3) := by decide +kernel
theorem dX12_set_96 : decode cX12_set 96 = .ok (.aload_n 0, 1) := by decide +kernel
theorem dX12_set_97 : decode cX12_set 97 = .ok (.getfield 19, 3) := by decide +kernel
theorem dX12_set_100 : decode cX12_set 100 = .ok (.iload_n 2, 1) := by decide +kernel
theorem dX12_set_101 : decode cX12_set 101 = .ok (.iload_n 3, 1) := by decide +kernel
theorem dX12_set_102 : decode cX12_set 102 = .ok (.iastore, 1) := by decide +kernel
theorem dX12_set_103 : decode cX12_set 103 = .ok (.aload_n 0, 1) := by decide +kernel
theorem dX12_set_104 : decode cX12_set 104 = .ok (.iconst 0, 1) := by decide +kernel
theorem dX12_set_105 : decode cX12_set 105 = .ok (.putfield 116, 3) := by decide +kernel
theorem dX12_set_108 : decode cX12_set 108 = .ok (.iconst 1, 1) := by decide +kernel
theorem dX12_set_109 : decode cX12_set 109 = .ok (.ireturn, 1) := by decide +kernel
theorem dX12_line_0 : decode cX12_line 0 = .ok (.aload_n 0, 1) := by decide +kernel
theorem dX12_line_1 : decode cX12_line 1 = .ok (.iconst 0, 1) := by decide +kernel
theorem dX12_line_2 : decode cX12_line 2 = .ok (.putfield 113, 3) := by decide +kernel
theorem dX12_line_5 : decode cX12_line 5 = .ok (.aload_n 0, 1) := by decide +kernel
theorem dX12_line_6 : decode cX12_line 6 = .ok (.iload_n 1, 1) := by decide +kernel
theorem dX12_line_7 : decode cX12_line 7 = .ok (.invokevirtual 156, 3) := by decide +kernel
theorem dX12_line_10 : decode cX12_line 10 = .ok (.ifCond .eq 16, 3) := by decide +kernel
theorem dX12_line_13 : decode cX12_line 13 = .ok (.aload_n 0, 1) := by decide +kernel
theorem dX12_line_14 : decode cX12_line 14 = .ok (.iload_n 2, 1) := by decide +kernel
theorem dX12_line_15 : decode cX12_line 15 = .ok (.invokevirtual 156, 3) := by decide +kernel
theorem dX12_line_18 : decode cX12_line 18 = .ok (.ifCond .eq 8, 3) := by decide +kernel
theorem dX12_line_21 : decode cX12_line 21 = .ok (.iload_n 1, 1) := by decide +kernel
theorem dX12_line_22 : decode cX12_line 22 = .ok (.iload_n 2, 1) := by decide +kernel
theorem dX12_line_23 : decode cX12_line 23 = .ok (.if_icmp .ne 5, 3) := by decide +kernel
theorem dX12_line_26 : decode cX12_line 26 = .ok (.iconst 0, 1) := by decide +kernel
theorem dX12_line_27 : decode cX12_line 27 = .ok (.ireturn, 1) := by decide +kernel
theorem dX12_line_28 : decode cX12_line 28 = .ok (.aload_n 0, 1) := by decide +kernel
theorem dX12_line_29 : decode cX12_line 29 = .ok (.getfield 22, 3) := by decide +kernel
theorem dX12_line_32 : decode cX12_line 32 = .ok (.iload_n 1, 1) := by decide +kernel
theorem dX12_line_33 : decode cX12_line 33 = .ok (.iload_n 3, 1) := by decide +kernel
theorem dX12_line_34 : decode cX12_line 34 = .ok (.ifCond .eq 16, 3) := by decide +kernel
theorem dX12_line_37 : decode cX12_line 37 = .ok (.aload_n 0, 1) := by decide +kernel
theorem dX12_line_38 : decode cX12_line 38 = .ok (.getfield 22, 3) := by decide +kernel
theorem dX12_line_41 : decode cX12_line 41 = .ok (.iload_n 1, 1) := by decide +kernel
theorem dX12_line_42 : decode cX12_line 42 = .ok (.iaload, 1) := by decide +kernel
theorem dX12_line_43 : decode cX12_line 43 = .ok (.iconst 1, 1) := by decide +kernel
theorem dX12_line_44 : decode cX12_line 44 = .ok (.iload_n 2, 1) := by decide +kernel
theorem dX12_line_45 : decode cX12_line 45 = .ok (.ishl, 1) := by decide +kernel
theorem dX12_line_46 : decode cX12_line 46 = .ok (.ior, 1) := by decide +kernel
theorem dX12_line_47 : decode cX12_line 47 = .ok (.goto 15, 3) := by decide +kernel
theorem dX12_line_50 : decode cX12_line 50 = .ok (.aload_n 0, 1) := by decide +kernel
theorem dX12_line_51 : decode cX12_line 51 = .ok (.getfield 22, 3) := by decide +kernel
theorem dX12_line_54 : decode cX12_line 54 = .ok (.iload_n 1, 1) := by decide +kernel
theorem dX12_line_55 : decode cX12_line 55 = .ok (.iaload, 1) := by decide +kernel
theorem dX12_line_56 : decode cX12_line 56 = .ok (.iconst 1, 1) := by decide +kernel
theorem dX12_line_57 : decode cX12_line 57 = .ok (.iload_n 2, 1) := by decide +kernel
theorem dX12_line_58 : decode cX12_line 58 = .ok (.ishl, 1) := by decide +kernel
theorem dX12_line_59 : decode cX12_line 59 = .ok (.iconst (-1), 1) := by decide +kernel
theorem dX12_line_60 : decode cX12_line 60 = .ok (.ixor, 1) := by decide +kernel
theorem dX12_line_61 : decode cX12_line 61 = .ok (.iand, 1) := by decide +kernel
theorem dX12_line_62 : decode cX12_line 62 = .ok (.iastore, 1) := by decide +kernel
theorem dX12_line_63 : decode cX12_line 63 = .ok (.aload_n 0, 1) := by decide +kernel
theorem dX12_line_64 : decode cX12_line 64 = .ok (.getfield 22, 3) := by decide +kernel
theorem dX12_line_67 : decode cX12_line 67 = .ok (.iload_n 2, 1) := by decide +kernel
theorem dX12_line_68 : decode cX12_line 68 = .ok (.iload_n 3, 1) := by decide +kernel
theorem dX12_line_69 : decode cX12_line 69 = .ok (.ifCond .eq 16, 3) := by decide +kernel
theorem dX12_line_72 : decode cX12_line 72 = .ok (.aload_n 0, 1) := by decide +kernel
theorem dX12_line_73 : decode cX12_line 73 = .ok (.getfield 22, 3) := by decide +kernel
theorem dX12_line_76 : decode cX12_line 76 = .ok (.iload_n 2, 1) := by decide +kernel
theorem dX12_line_77 : decode cX12_line 77 = .ok (.iaload, 1) := by decide +kernel
theorem dX12_line_78 : decode cX12_line 78 = .ok (.iconst 1, 1) := by decide +kernel
theorem dX12_line_79 : decode cX12_line 79 = .ok (.iload_n 1, 1) := by decide +kernel
theorem dX12_line_80 : decode cX12_line 80 = .ok (.ishl, 1) := by decide +kernel
theorem dX12_line_81 : decode cX12_line 81 = .ok (.ior, 1) := by decide +kernel
theorem dX12_line_82 : decode cX12_line 82 = .ok (.goto 15, 3) := by decide +kernel
theorem dX12_line_85 : decode cX12_line 85 = .ok (.aload_n 0, 1) := by decide +kernel
theorem dX12_line_86 : decode cX12_line 86 = .ok (.getfield 22, 3) := by decide +kernel
theorem dX12_line_89 : decode cX12_line 89 = .ok (.iload_n 2, 1) := by decide +kernel
theorem dX12_line_90 : decode cX12_line 90 = .ok (.iaload, 1) := by decide +kernel
theorem dX12_line_91 : decode cX12_line 91 = .ok (.iconst 1, 1) := by decide +kernel
theorem dX12_line_92 : decode cX12_line 92 = .ok (.iload_n 1, 1) := by decide +kernel
theorem dX12_line_93 : decode cX12_line 93 = .ok (.ishl, 1) := by decide +kernel
theorem dX12_line_94 : decode cX12_line 94 = .ok (.iconst (-1), 1) := by decide +kernel
theorem dX12_line_95 : decode cX12_line 95 = .ok (.ixor, 1) := by decide +kernel
theorem dX12_line_96 : decode cX12_line 96 = .ok (.iand, 1) := by decide +kernel
theorem dX12_line_97 : decode cX12_line 97 = .ok (.iastore, 1) := by decide +kernel
theorem dX12_line_98 : decode cX12_line 98 = .ok (.aload_n 0, 1) := by decide +kernel
theorem dX12_line_99 : decode cX12_line 99 = .ok (.iconst 0, 1) := by decide +kernel
theorem dX12_line_100 : decode cX12_line 100 = .ok (.putfield 116, 3) := by decide +kernel
theorem dX12_line_103 : decode cX12_line 103 = .ok (.iconst 1, 1) := by decide +kernel
theorem dX12_line_104 : decode cX12_line 104 = .ok (.ireturn, 1) := by decide +kernel
theorem dX12_types_0 : decode cX12_types 0 = .ok (.bipush 24, 2) := by decide +kernel
theorem dX12_types_2 : decode cX12_types 2 = .ok (.istore_n 2, 1) := by decide +kernel
theorem dX12_types_3 : decode cX12_types 3 = .ok (.iload_n 2, 1) := by decide +kernel
theorem dX12_types_4 : decode cX12_types 4 = .ok (.ifCond .lt 35, 3) := by decide +kernel
theorem dX12_types_7 : decode cX12_types 7 = .ok (.aload_n 0, 1) := by decide +kernel
theorem dX12_types_8 : decode cX12_types 8 = .ok (.getfield 28, 3) := by decide +kernel
theorem dX12_types_11 : decode cX12_types 11 = .ok (.aload_n 0, 1) := by decide +kernel
theorem dX12_types_12 : decode cX12_types 12 = .ok (.getfield 159, 3) := by decide +kernel
theorem dX12_types_15 : decode cX12_types 15 = .ok (.iload_n 1, 1) := by decide +kernel
theorem dX12_types_16 : decode cX12_types 16 = .ok (.iload_n 2, 1) := by decide +kernel
theorem dX12_types_17 : decode cX12_types 17 = .ok (.ishr, 1) := by decide +kernel
theorem dX12_types_18 : decode cX12_types 18 = .ok (.sipush 255, 3) := by decide +kernel
theorem dX12_types_21 : decode cX12_types 21 = .ok (.iand, 1) := by decide +kernel
theorem dX12_types_22 : decode cX12_types 22 = .ok (.iastore, 1) := by decide +kernel
theorem dX12_types_23 : decode cX12_types 23 = .ok (.aload_n 0, 1) := by decide +kernel
theorem dX12_types_24 : decode cX12_types 24 = .ok (.aload_n 0, 1) := by decide +kernel
theorem dX12_types_25 : decode cX12_types 25 = .ok (.getfield 159, 3) := by decide +kernel
theorem dX12_types_28 : decode cX12_types 28 = .ok (.iconst 1, 1) := by decide +kernel
theorem dX12_types_29 : decode cX12_types 29 = .ok (.iadd, 1) := by decide +kernel
theorem dX12_types_30 : decode cX12_types 30 = .ok (.putfield 159, 3) := by decide +kernel
theorem dX12_types_33 : decode cX12_types 33 = .ok (.iinc 2 (-8), 3) := by decide +kernel
theorem dX12_types_36 : decode cX12_types 36 = .ok (.goto (-33), 3) := by decide +kernel
theorem dX12_types_39 : decode cX12_types 39 = .ok (.return_, 1) := by decide +kernel
theorem dX12_feed_0 : decode cX12_feed 0 = .ok (.aload_n 0, 1) := by decide +kernel
theorem dX12_feed_1 : decode cX12_feed 1 = .ok (.iconst 0, 1) := by decide +kernel
theorem dX12_feed_2 : decode cX12_feed 2 = .ok (.putfield 113, 3) := by decide +kernel
theorem dX12_feed_5 : decode cX12_feed 5 = .ok (.aload_n 0, 1) := by decide +kernel
theorem dX12_feed_6 : decode cX12_feed 6 = .ok (.getfield 159, 3) := by decide +kernel
theorem dX12_feed_9 : decode cX12_feed 9 = .ok (.sipush 380, 3) := by decide +kernel
theorem dX12_feed_12 : decode cX12_feed 12 = .ok (.if_icmp .le 5, 3) := by decide +kernel
theorem dX12_feed_15 : decode cX12_feed 15 = .ok (.iconst (-1), 1) := by decide +kernel
theorem dX12_feed_16 : decode cX12_feed 16 = .ok (.ireturn, 1) := by decide +kernel
theorem dX12_feed_17 : decode cX12_feed 17 = .ok (.aload_n 0, 1) := by decide +kernel
theorem dX12_feed_18 : decode cX12_feed 18 = .ok (.iload_n 1, 1) := by decide +kernel
theorem dX12_feed_19 : decode cX12_feed 19 = .ok (.invokevirtual 162, 3) := by decide +kernel
theorem dX12_feed_22 : decode cX12_feed 22 = .ok (.aload_n 0, 1) := by decide +kernel
theorem dX12_feed_23 : decode cX12_feed 23 = .ok (.iload_n 2, 1) := by decide +kernel
theorem dX12_feed_24 : decode cX12_feed 24 = .ok (.invokevirtual 162, 3) := by decide +kernel
theorem dX12_feed_27 : decode cX12_feed 27 = .ok (.aload_n 0, 1) := by decide +kernel
theorem dX12_feed_28 : decode cX12_feed 28 = .ok (.iload_n 3, 1) := by decide +kernel
theorem dX12_feed_29 : decode cX12_feed 29 = .ok (.invokevirtual 162, 3) := by decide +kernel
theorem dX12_feed_32 : decode cX12_feed 32 = .ok (.aload_n 0, 1) := by decide +kernel
theorem dX12_feed_33 : decode cX12_feed 33 = .ok (.iload 4, 2) := by decide +kernel
theorem dX12_feed_35 : decode cX12_feed 35 = .ok (.invokevirtual 162, 3) := by decide +kernel
theorem dX12_feed_38 : decode cX12_feed 38 = .ok (.aload_n 0, 1) := by decide +kernel
theorem dX12_feed_39 : decode cX12_feed 39 = .ok (.iload 5, 2) := by decide +kernel
theorem dX12_feed_41 : decode cX12_feed 41 = .ok (.invokevirtual 162, 3) := by decide +kernel
theorem dX12_feed_44 : decode cX12_feed 44 = .ok (.aload_n 0, 1) := by decide +kernel
theorem dX12_feed_45 : decode cX12_feed 45 = .ok (.getfield 159, 3) := by decide +kernel
theorem dX12_feed_48 : decode cX12_feed 48 = .ok (.ireturn, 1) := by decide +kernel
theorem dX12_end_0 : decode cX12_end 0 = .ok (.aload_n 0, 1) := by decide +kernel
theorem dX12_end_1 : decode cX12_end 1 = .ok (.iconst 0, 1) := by decide +kernel
theorem dX12_end_2 : decode cX12_end 2 = .ok (.putfield 113, 3) := by decide +kernel
theorem dX12_end_5 : decode cX12_end 5 = .ok (.aload_n 0, 1) := by decide +kernel
theorem dX12_end_6 : decode cX12_end 6 = .ok (.iload_n 1, 1) := by decide +kernel
theorem dX12_end_7 : decode cX12_end 7 = .ok (.iconst 0, 1) := by decide +kernel
theorem dX12_end_8 : decode cX12_end 8 = .ok (.aload_n 0, 1) := by decide +kernel
theorem dX12_end_9 : decode cX12_end 9 = .ok (.getfield 159, 3) := by decide +kernel
theorem dX12_end_12 : decode cX12_end 12 = .ok (.invokevirtual 142, 3) := by decide +kernel
theorem dX12_end_15 : decode cX12_end 15 = .ok (.ifCond .ne 5, 3) := by decide +kernel
theorem dX12_end_18 : decode cX12_end 18 = .ok (.iconst 0, 1) := by decide +kernel
theorem dX12_end_19 : decode cX12_end 19 = .ok (.ireturn, 1) := by decide +kernel
theorem dX12_end_20 : decode cX12_end 20 = .ok (.aload_n 0, 1) := by decide +kernel
theorem dX12_end_21 : decode cX12_end 21 = .ok (.iload_n 1, 1) := by decide +kernel
theorem dX12_end_22 : decode cX12_end 22 = .ok (.putfield 159, 3) := by decide +kernel
theorem dX12_end_25 : decode cX12_end 25 = .ok (.iconst 1, 1) := by decide +kernel
theorem dX12_end_26 : decode cX12_end 26 = .ok (.ireturn, 1) := by decide +kernel
theorem dX12_raw_0 : decode cX12_raw 0 = .ok (.iload_n 1, 1) := by decide +kernel
theorem dX12_raw_1 : decode cX12_raw 1 = .ok (.aload_n 0, 1) := by decide +kernel
theorem dX12_raw_2 : decode cX12_raw 2 = .ok (.getfield 159, 3) := by decide +kernel
theorem dX12_raw_5 : decode cX12_raw 5 = .ok (.if_icmp .ge 12, 3) := by decide +kernel
theorem dX12_raw_8 : decode cX12_raw 8 = .ok (.aload_n 0, 1) := by decide +kernel
theorem dX12_raw_9 : decode cX12_raw 9 = .ok (.getfield 28, 3) := by decide +kernel
theorem dX12_raw_12 : decode cX12_raw 12 = .ok (.iload_n 1, 1) := by decide +kernel
theorem dX12_raw_13 : decode cX12_raw 13 = .ok (.iaload, 1) := by decide +kernel
theorem dX12_raw_14 : decode cX12_raw 14 = .ok (.goto 4, 3) := by decide +kernel
theorem dX12_raw_17 : decode cX12_raw 17 = .ok (.iconst (-1), 1) := by decide +kernel
theorem dX12_raw_18 : decode cX12_raw 18 = .ok (.ireturn, 1) := by decide +kernel
theorem dX12_isLetter_0 : decode cX12_isLetter 0 = .ok (.aload_n 0, 1) := by decide +kernel
theorem dX12_isLetter_1 : decode cX12_isLetter 1 = .ok (.iload_n 1, 1) := by decide +kernel
theorem dX12_isLetter_2 : decode cX12_isLetter 2 = .ok (.bipush 97, 2) := by decide +kernel
theorem dX12_isLetter_4 : decode cX12_isLetter 4 = .ok (.bipush 122, 2) := by decide +kernel
theorem dX12_isLetter_6 : decode cX12_isLetter 6 = .ok (.invokevirtual 142, 3) := by decide +kernel
theorem dX12_isLetter_9 : decode cX12_isLetter 9 = .ok (.ifCond .ne 15, 3) := by decide +kernel
theorem dX12_isLetter_12 : decode cX12_isLetter 12 = .ok (.aload_n 0, 1) := by decide +kernel
theorem dX12_isLetter_13 : decode cX12_isLetter 13 = .ok (.iload_n 1, 1) := by decide +kernel
theorem dX12_isLetter_14 : decode cX12_isLetter 14 = .ok (.bipush 65, 2) := by decide +kernel
theorem dX12_isLetter_16 : decode cX12_isLetter 16 = .ok (.bipush 90, 2) := by decide +kernel
theorem dX12_isLetter_18 : decode cX12_isLetter 18 = .ok (.invokevirtual 142, 3) := by decide +kernel
theorem dX12_isLetter_21 : decode cX12_isLetter 21 = .ok (.ifCond .eq 7, 3) := by decide +kernel
theorem dX12_isLetter_24 : decode cX12_isLetter 24 = .ok (.iconst 1, 1) := by decide +kernel
theorem dX12_isLetter_25 : decode cX12_isLetter 25 = .ok (.goto 4, 3) := by decide +kernel
theorem dX12_isLetter_28 : decode cX12_isLetter 28 = .ok (.iconst 0, 1) := by decide +kernel
theorem dX12_isLetter_29 : decode cX12_isLetter 29 = .ok (.ireturn, 1) := by decide +kernel
theorem dX12_isDigit_0 : decode cX12_isDigit 0 = .ok (.aload_n 0, 1) := by decide +kernel
theorem dX12_isDigit_1 : decode cX12_isDigit 1 = .ok (.iload_n 1, 1) := by decide +kernel
theorem dX12_isDigit_2 : decode cX12_isDigit 2 = .ok (.bipush 48, 2) := by decide +kernel
theorem dX12_isDigit_4 : decode cX12_isDigit 4 = .ok (.bipush 57, 2) := by decide +kernel
theorem dX12_isDigit_6 : decode cX12_isDigit 6 = .ok (.invokevirtual 142, 3) := by decide +kernel
theorem dX12_isDigit_9 : decode cX12_isDigit 9 = .ok (.ireturn, 1) := by decide +kernel
theorem dX12_isMarkSign_0 : decode cX12_isMarkSign 0 = .ok (.iload_n 1, 1) := by decide +kernel
theorem dX12_isMarkSign_1 : decode cX12_isMarkSign 1 = .ok (.bipush 59, 2) := by decide +kernel
theorem dX12_isMarkSign_3 : decode cX12_isMarkSign 3 = .ok (.if_icmp .eq 57, 3) := by decide +kernel
theorem dX12_isMarkSign_6 : decode cX12_isMarkSign 6 = .ok (.iload_n 1, 1) := by decide +kernel
theorem dX12_isMarkSign_7 : decode cX12_isMarkSign 7 = .ok (.bipush 43, 2) := by decide +kernel
theorem dX12_isMarkSign_9 : decode cX12_isMarkSign 9 = .ok (.if_icmp .eq 51, 3) := by decide +kernel
theorem dX12_isMarkSign_12 : decode cX12_isMarkSign 12 = .ok (.iload_n 1, 1) := by decide +kernel
theorem dX12_isMarkSign_13 : decode cX12_isMarkSign 13 = .ok (.bipush 45, 2) := by decide +kernel
theorem dX12_isMarkSign_15 : decode cX12_isMarkSign 15 = .ok (.if_icmp .eq 45, 3) := by decide +kernel
theorem dX12_isMarkSign_18 : decode cX12_isMarkSign 18 = .ok (.iload_n 1, 1) := by decide +kernel
theorem dX12_isMarkSign_19 : decode cX12_isMarkSign 19 = .ok (.bipush 42, 2) := by decide +kernel
theorem dX12_isMarkSign_21 : decode cX12_isMarkSign 21 = .ok (.if_icmp .eq 39, 3) := by decide +kernel
theorem dX12_isMarkSign_24 : decode cX12_isMarkSign 24 = .ok (.iload_n 1, 1) := by decide +kernel
theorem dX12_isMarkSign_25 : decode cX12_isMarkSign 25 = .ok (.bipush 47, 2) := by decide +kernel
theorem dX12_isMarkSign_27 : decode cX12_isMarkSign 27 = .ok (.if_icmp .eq 33, 3) := by decide +kernel
theorem dX12_isMarkSign_30 : decode cX12_isMarkSign 30 = .ok (.iload_n 1, 1) := by decide +kernel
theorem dX12_isMarkSign_31 : decode cX12_isMarkSign 31 = .ok (.bipush 40, 2) := by decide +kernel
theorem dX12_isMarkSign_33 : decode cX12_isMarkSign 33 = .ok (.if_icmp .eq 27, 3) := by decide +kernel
theorem dX12_isMarkSign_36 : decode cX12_isMarkSign 36 = .ok (.iload_n 1, 1) := by decide +kernel
theorem dX12_isMarkSign_37 : decode cX12_isMarkSign 37 = .ok (.bipush 41, 2) := by decide +kernel
theorem dX12_isMarkSign_39 : decode cX12_isMarkSign 39 = .ok (.if_icmp .eq 21, 3) := by decide +kernel
theorem dX12_isMarkSign_42 : decode cX12_isMarkSign 42 = .ok (.iload_n 1, 1) := by decide +kernel
theorem dX12_isMarkSign_43 : decode cX12_isMarkSign 43 = .ok (.bipush 60, 2) := by decide +kernel
theorem dX12_isMarkSign_45 : decode cX12_isMarkSign 45 = .ok (.if_icmp .eq 15, 3) := by decide +kernel
theorem dX12_isMarkSign_48 : decode cX12_isMarkSign 48 = .ok (.iload_n 1, 1) := by decide +kernel
theorem dX12_isMarkSign_49 : decode cX12_isMarkSign 49 = .ok (.bipush 61, 2) := by decide +kernel
theorem dX12_isMarkSign_51 : decode cX12_isMarkSign 51 = .ok (.if_icmp .eq 9, 3) := by decide +kernel
theorem dX12_isMarkSign_54 : decode cX12_isMarkSign 54 = .ok (.iload_n 1, 1) := by decide +kernel
theorem dX12_isMarkSign_55 : decode cX12_isMarkSign 55 = .ok (.bipush 62, 2) := by decide +kernel
theorem dX12_isMarkSign_57 : decode cX12_isMarkSign 57 = .ok (.if_icmp .ne 7, 3) := by decide +kernel
theorem dX12_isMarkSign_60 : decode cX12_isMarkSign 60 = .ok (.iconst 1, 1) := by decide +kernel
theorem dX12_isMarkSign_61 : decode cX12_isMarkSign 61 = .ok (.goto 4, 3) := by decide +kernel
theorem dX12_isMarkSign_64 : decode cX12_isMarkSign 64 = .ok (.iconst 0, 1) := by decide +kernel
theorem dX12_isMarkSign_65 : decode cX12_isMarkSign 65 = .ok (.ireturn, 1) := by decide +kernel
theorem dX12_wordAt_0 : decode cX12_wordAt 0 = .ok (.iconst (-1), 1) := by decide +kernel
theorem dX12_wordAt_1 : decode cX12_wordAt 1 = .ok (.istore_n 3, 1) := by decide +kernel
theorem dX12_wordAt_2 : decode cX12_wordAt 2 = .ok (.iconst 0, 1) := by decide +kernel
theorem dX12_wordAt_3 : decode cX12_wordAt 3 = .ok (.istore 4, 2) := by decide +kernel
theorem dX12_wordAt_5 : decode cX12_wordAt 5 = .ok (.iload 4, 2) := by decide +kernel
theorem dX12_wordAt_7 : decode cX12_wordAt 7 = .ok (.sipush 144, 3) := by decide +kernel
theorem dX12_wordAt_10 : decode cX12_wordAt 10 = .ok (.if_icmp .ge 108, 3) := by decide +kernel
theorem dX12_wordAt_13 : decode cX12_wordAt 13 = .ok (.iconst 0, 1) := by decide +kernel
theorem dX12_wordAt_14 : decode cX12_wordAt 14 = .ok (.istore 5, 2) := by decide +kernel
theorem dX12_wordAt_16 : decode cX12_wordAt 16 = .ok (.iload_n 3, 1) := by decide +kernel
theorem dX12_wordAt_17 : decode cX12_wordAt 17 = .ok (.iconst 1, 1) := by decide +kernel
theorem dX12_wordAt_18 : decode cX12_wordAt 18 = .ok (.iadd, 1) := by decide +kernel
theorem dX12_wordAt_19 : decode cX12_wordAt 19 = .ok (.istore_n 3, 1) := by decide +kernel
theorem dX12_wordAt_20 : decode cX12_wordAt 20 = .ok (.iload_n 1, 1) := by decide +kernel
theorem dX12_wordAt_21 : decode cX12_wordAt 21 = .ok (.iload 5, 2) := by decide +kernel
theorem dX12_wordAt_23 : decode cX12_wordAt 23 = .ok (.iadd, 1) := by decide +kernel
theorem dX12_wordAt_24 : decode cX12_wordAt 24 = .ok (.iload_n 2, 1) := by decide +kernel
theorem dX12_wordAt_25 : decode cX12_wordAt 25 = .ok (.if_icmp .ge 36, 3) := by decide +kernel
theorem dX12_wordAt_28 : decode cX12_wordAt 28 = .ok (.aload_n 0, 1) := by decide +kernel
theorem dX12_wordAt_29 : decode cX12_wordAt 29 = .ok (.getfield 31, 3) := by decide +kernel
theorem dX12_wordAt_32 : decode cX12_wordAt 32 = .ok (.iload 4, 2) := by decide +kernel
theorem dX12_wordAt_34 : decode cX12_wordAt 34 = .ok (.iconst 1, 1) := by decide +kernel
theorem dX12_wordAt_35 : decode cX12_wordAt 35 = .ok (.iadd, 1) := by decide +kernel
theorem dX12_wordAt_36 : decode cX12_wordAt 36 = .ok (.iload 5, 2) := by decide +kernel
theorem dX12_wordAt_38 : decode cX12_wordAt 38 = .ok (.iadd, 1) := by decide +kernel
theorem dX12_wordAt_39 : decode cX12_wordAt 39 = .ok (.iaload, 1) := by decide +kernel
theorem dX12_wordAt_40 : decode cX12_wordAt 40 = .ok (.aload_n 0, 1) := by decide +kernel
theorem dX12_wordAt_41 : decode cX12_wordAt 41 = .ok (.getfield 28, 3) := by decide +kernel
theorem dX12_wordAt_44 : decode cX12_wordAt 44 = .ok (.iload_n 1, 1) := by decide +kernel
theorem dX12_wordAt_45 : decode cX12_wordAt 45 = .ok (.iload 5, 2) := by decide +kernel
theorem dX12_wordAt_47 : decode cX12_wordAt 47 = .ok (.iadd, 1) := by decide +kernel
theorem dX12_wordAt_48 : decode cX12_wordAt 48 = .ok (.iaload, 1) := by decide +kernel
theorem dX12_wordAt_49 : decode cX12_wordAt 49 = .ok (.if_icmp .ne 12, 3) := by decide +kernel
theorem dX12_wordAt_52 : decode cX12_wordAt 52 = .ok (.iload 5, 2) := by decide +kernel
theorem dX12_wordAt_54 : decode cX12_wordAt 54 = .ok (.iconst 1, 1) := by decide +kernel
theorem dX12_wordAt_55 : decode cX12_wordAt 55 = .ok (.iadd, 1) := by decide +kernel
theorem dX12_wordAt_56 : decode cX12_wordAt 56 = .ok (.istore 5, 2) := by decide +kernel
theorem dX12_wordAt_58 : decode cX12_wordAt 58 = .ok (.goto (-38), 3) := by decide +kernel
theorem dX12_wordAt_61 : decode cX12_wordAt 61 = .ok (.iload_n 1, 1) := by decide +kernel
theorem dX12_wordAt_62 : decode cX12_wordAt 62 = .ok (.iload 5, 2) := by decide +kernel
theorem dX12_wordAt_64 : decode cX12_wordAt 64 = .ok (.iadd, 1) := by decide +kernel
theorem dX12_wordAt_65 : decode cX12_wordAt 65 = .ok (.iload_n 2, 1) := by decide +kernel
theorem dX12_wordAt_66 : decode cX12_wordAt 66 = .ok (.if_icmp .ne 22, 3) := by decide +kernel
theorem dX12_wordAt_69 : decode cX12_wordAt 69 = .ok (.aload_n 0, 1) := by decide +kernel
theorem dX12_wordAt_70 : decode cX12_wordAt 70 = .ok (.getfield 31, 3) := by decide +kernel
theorem dX12_wordAt_73 : decode cX12_wordAt 73 = .ok (.iload 4, 2) := by decide +kernel
theorem dX12_wordAt_75 : decode cX12_wordAt 75 = .ok (.iconst 1, 1) := by decide +kernel
theorem dX12_wordAt_76 : decode cX12_wordAt 76 = .ok (.iadd, 1) := by decide +kernel
theorem dX12_wordAt_77 : decode cX12_wordAt 77 = .ok (.iload 5, 2) := by decide +kernel
theorem dX12_wordAt_79 : decode cX12_wordAt 79 = .ok (.iadd, 1) := by decide +kernel
theorem dX12_wordAt_80 : decode cX12_wordAt 80 = .ok (.iaload, 1) := by decide +kernel
theorem dX12_wordAt_81 : decode cX12_wordAt 81 = .ok (.bipush 32, 2) := by decide +kernel
theorem dX12_wordAt_83 : decode cX12_wordAt 83 = .ok (.if_icmp .ne 5, 3) := by decide +kernel
theorem dX12_wordAt_86 : decode cX12_wordAt 86 = .ok (.iload_n 3, 1) := by decide +kernel
theorem dX12_wordAt_87 : decode cX12_wordAt 87 = .ok (.ireturn, 1) := by decide +kernel
theorem dX12_wordAt_88 : decode cX12_wordAt 88 = .ok (.iload 4, 2) := by decide +kernel
theorem dX12_wordAt_90 : decode cX12_wordAt 90 = .ok (.iconst 1, 1) := by decide +kernel
theorem dX12_wordAt_91 : decode cX12_wordAt 91 = .ok (.iadd, 1) := by decide +kernel
theorem dX12_wordAt_92 : decode cX12_wordAt 92 = .ok (.istore 4, 2) := by decide +kernel
theorem dX12_wordAt_94 : decode cX12_wordAt 94 = .ok (.aload_n 0, 1) := by decide +kernel
theorem dX12_wordAt_95 : decode cX12_wordAt 95 = .ok (.getfield 31, 3) := by decide +kernel
theorem dX12_wordAt_98 : decode cX12_wordAt 98 = .ok (.iload 4, 2) := by decide +kernel
theorem dX12_wordAt_100 : decode cX12_wordAt 100 = .ok (.iaload, 1) := by decide +kernel
theorem dX12_wordAt_101 : decode cX12_wordAt 101 = .ok (.bipush 32, 2) := by decide +kernel
theorem dX12_wordAt_103 : decode cX12_wordAt 103 = .ok (.if_icmp .eq 12, 3) := by decide +kernel
theorem dX12_wordAt_106 : decode cX12_wordAt 106 = .ok (.iload 4, 2) := by decide +kernel
theorem dX12_wordAt_108 : decode cX12_wordAt 108 = .ok (.iconst 1, 1) := by decide +kernel
theorem dX12_wordAt_109 : decode cX12_wordAt 109 = .ok (.iadd, 1) := by decide +kernel
theorem dX12_wordAt_110 : decode cX12_wordAt 110 = .ok (.istore 4, 2) := by decide +kernel
theorem dX12_wordAt_112 : decode cX12_wordAt 112 = .ok (.goto (-18), 3) := by decide +kernel
theorem dX12_wordAt_115 : decode cX12_wordAt 115 = .ok (.goto (-110), 3) := by decide +kernel
theorem dX12_wordAt_118 : decode cX12_wordAt 118 = .ok (.iconst (-1), 1) := by decide +kernel
theorem dX12_wordAt_119 : decode cX12_wordAt 119 = .ok (.ireturn, 1) := by decide +kernel
theorem dX12_reads_0 : decode cX12_reads 0 = .ok (.aload_n 0, 1) := by decide +kernel
theorem dX12_reads_1 : decode cX12_reads 1 = .ok (.aload_n 0, 1) := by decide +kernel
theorem dX12_reads_2 : decode cX12_reads 2 = .ok (.getfield 166, 3) := by decide +kernel
theorem dX12_reads_5 : decode cX12_reads 5 = .ok (.invokevirtual 169, 3) := by decide +kernel
theorem dX12_reads_8 : decode cX12_reads 8 = .ok (.bipush 32, 2) := by decide +kernel
theorem dX12_reads_10 : decode cX12_reads 10 = .ok (.if_icmp .eq 16, 3) := by decide +kernel
theorem dX12_reads_13 : decode cX12_reads 13 = .ok (.aload_n 0, 1) := by decide +kernel
theorem dX12_reads_14 : decode cX12_reads 14 = .ok (.aload_n 0, 1) := by decide +kernel
theorem dX12_reads_15 : decode cX12_reads 15 = .ok (.getfield 166, 3) := by decide +kernel
theorem dX12_reads_18 : decode cX12_reads 18 = .ok (.invokevirtual 169, 3) := by decide +kernel
theorem dX12_reads_21 : decode cX12_reads 21 = .ok (.bipush 10, 2) := by decide +kernel
theorem dX12_reads_23 : decode cX12_reads 23 = .ok (.if_icmp .ne 16, 3) := by decide +kernel
theorem dX12_reads_26 : decode cX12_reads 26 = .ok (.aload_n 0, 1) := by decide +kernel
theorem dX12_reads_27 : decode cX12_reads 27 = .ok (.aload_n 0, 1) := by decide +kernel
theorem dX12_reads_28 : decode cX12_reads 28 = .ok (.getfield 166, 3) := by decide +kernel
theorem dX12_reads_31 : decode cX12_reads 31 = .ok (.iconst 1, 1) := by decide +kernel
theorem dX12_reads_32 : decode cX12_reads 32 = .ok (.iadd, 1) := by decide +kernel
theorem dX12_reads_33 : decode cX12_reads 33 = .ok (.putfield 166, 3) := by decide +kernel
theorem dX12_reads_36 : decode cX12_reads 36 = .ok (.goto (-36), 3) := by decide +kernel
theorem dX12_reads_39 : decode cX12_reads 39 = .ok (.aload_n 0, 1) := by decide +kernel
theorem dX12_reads_40 : decode cX12_reads 40 = .ok (.aload_n 0, 1) := by decide +kernel
theorem dX12_reads_41 : decode cX12_reads 41 = .ok (.getfield 166, 3) := by decide +kernel
theorem dX12_reads_44 : decode cX12_reads 44 = .ok (.putfield 173, 3) := by decide +kernel
theorem dX12_reads_47 : decode cX12_reads 47 = .ok (.aload_n 0, 1) := by decide +kernel
theorem dX12_reads_48 : decode cX12_reads 48 = .ok (.iconst 1, 1) := by decide +kernel
theorem dX12_reads_49 : decode cX12_reads 49 = .ok (.putfield 176, 3) := by decide +kernel
theorem dX12_reads_52 : decode cX12_reads 52 = .ok (.aload_n 0, 1) := by decide +kernel
theorem dX12_reads_53 : decode cX12_reads 53 = .ok (.aload_n 0, 1) := by decide +kernel
theorem dX12_reads_54 : decode cX12_reads 54 = .ok (.getfield 166, 3) := by decide +kernel
theorem dX12_reads_57 : decode cX12_reads 57 = .ok (.invokevirtual 169, 3) := by decide +kernel
theorem dX12_reads_60 : decode cX12_reads 60 = .ok (.istore_n 1, 1) := by decide +kernel
theorem dX12_reads_61 : decode cX12_reads 61 = .ok (.iload_n 1, 1) := by decide +kernel
theorem dX12_reads_62 : decode cX12_reads 62 = .ok (.iconst (-1), 1) := by decide +kernel
theorem dX12_reads_63 : decode cX12_reads 63 = .ok (.if_icmp .ne 9, 3) := by decide +kernel
theorem dX12_reads_66 : decode cX12_reads 66 = .ok (.aload_n 0, 1) := by decide +kernel
theorem dX12_reads_67 : decode cX12_reads 67 = .ok (.iconst 0, 1) := by decide +kernel
theorem dX12_reads_68 : decode cX12_reads 68 = .ok (.putfield 176, 3) := by decide +kernel
theorem dX12_reads_71 : decode cX12_reads 71 = .ok (.return_, 1) := by decide +kernel
theorem dX12_reads_72 : decode cX12_reads 72 = .ok (.aload_n 0, 1) := by decide +kernel
theorem dX12_reads_73 : decode cX12_reads 73 = .ok (.aload_n 0, 1) := by decide +kernel
theorem dX12_reads_74 : decode cX12_reads 74 = .ok (.getfield 166, 3) := by decide +kernel
theorem dX12_reads_77 : decode cX12_reads 77 = .ok (.iconst 1, 1) := by decide +kernel
theorem dX12_reads_78 : decode cX12_reads 78 = .ok (.iadd, 1) := by decide +kernel
theorem dX12_reads_79 : decode cX12_reads 79 = .ok (.putfield 166, 3) := by decide +kernel
theorem dX12_reads_82 : decode cX12_reads 82 = .ok (.aload_n 0, 1) := by decide +kernel
theorem dX12_reads_83 : decode cX12_reads 83 = .ok (.iload_n 1, 1) := by decide +kernel
theorem dX12_reads_84 : decode cX12_reads 84 = .ok (.putfield 179, 3) := by decide +kernel
theorem dX12_reads_87 : decode cX12_reads 87 = .ok (.aload_n 0, 1) := by decide +kernel
theorem dX12_reads_88 : decode cX12_reads 88 = .ok (.iload_n 1, 1) := by decide +kernel
theorem dX12_reads_89 : decode cX12_reads 89 = .ok (.invokevirtual 182, 3) := by decide +kernel
theorem dX12_reads_92 : decode cX12_reads 92 = .ok (.ifCond .eq 63, 3) := by decide +kernel
theorem dX12_reads_95 : decode cX12_reads 95 = .ok (.aload_n 0, 1) := by decide +kernel
theorem dX12_reads_96 : decode cX12_reads 96 = .ok (.aload_n 0, 1) := by decide +kernel
theorem dX12_reads_97 : decode cX12_reads 97 = .ok (.aload_n 0, 1) := by decide +kernel
theorem dX12_reads_98 : decode cX12_reads 98 = .ok (.getfield 166, 3) := by decide +kernel
theorem dX12_reads_101 : decode cX12_reads 101 = .ok (.invokevirtual 169, 3) := by decide +kernel
theorem dX12_reads_104 : decode cX12_reads 104 = .ok (.invokevirtual 182, 3) := by decide +kernel
theorem dX12_reads_107 : decode cX12_reads 107 = .ok (.ifCond .eq 16, 3) := by decide +kernel
theorem dX12_reads_110 : decode cX12_reads 110 = .ok (.aload_n 0, 1) := by decide +kernel
theorem dX12_reads_111 : decode cX12_reads 111 = .ok (.aload_n 0, 1) := by decide +kernel
theorem dX12_reads_112 : decode cX12_reads 112 = .ok (.getfield 166, 3) := by decide +kernel
theorem dX12_reads_115 : decode cX12_reads 115 = .ok (.iconst 1, 1) := by decide +kernel
theorem dX12_reads_116 : decode cX12_reads 116 = .ok (.iadd, 1) := by decide +kernel
theorem dX12_reads_117 : decode cX12_reads 117 = .ok (.putfield 166, 3) := by decide +kernel
theorem dX12_reads_120 : decode cX12_reads 120 = .ok (.goto (-25), 3) := by decide +kernel
theorem dX12_reads_123 : decode cX12_reads 123 = .ok (.aload_n 0, 1) := by decide +kernel
theorem dX12_reads_124 : decode cX12_reads 124 = .ok (.aload_n 0, 1) := by decide +kernel
theorem dX12_reads_125 : decode cX12_reads 125 = .ok (.aload_n 0, 1) := by decide +kernel
theorem dX12_reads_126 : decode cX12_reads 126 = .ok (.getfield 173, 3) := by decide +kernel
theorem dX12_reads_129 : decode cX12_reads 129 = .ok (.aload_n 0, 1) := by decide +kernel
theorem dX12_reads_130 : decode cX12_reads 130 = .ok (.getfield 166, 3) := by decide +kernel
theorem dX12_reads_133 : decode cX12_reads 133 = .ok (.invokevirtual 185, 3) := by decide +kernel
theorem dX12_reads_136 : decode cX12_reads 136 = .ok (.putfield 179, 3) := by decide +kernel
theorem dX12_reads_139 : decode cX12_reads 139 = .ok (.aload_n 0, 1) := by decide +kernel
theorem dX12_reads_140 : decode cX12_reads 140 = .ok (.getfield 179, 3) := by decide +kernel
theorem dX12_reads_143 : decode cX12_reads 143 = .ok (.iconst (-1), 1) := by decide +kernel
theorem dX12_reads_144 : decode cX12_reads 144 = .ok (.if_icmp .eq 129, 3) := by decide +kernel
theorem dX12_reads_147 : decode cX12_reads 147 = .ok (.aload_n 0, 1) := by decide +kernel
theorem dX12_reads_148 : decode cX12_reads 148 = .ok (.iconst 2, 1) := by decide +kernel
theorem dX12_reads_149 : decode cX12_reads 149 = .ok (.putfield 176, 3) := by decide +kernel
theorem dX12_reads_152 : decode cX12_reads 152 = .ok (.goto 121, 3) := by decide +kernel
theorem dX12_reads_155 : decode cX12_reads 155 = .ok (.aload_n 0, 1) := by decide +kernel
theorem dX12_reads_156 : decode cX12_reads 156 = .ok (.iload_n 1, 1) := by decide +kernel
theorem dX12_reads_157 : decode cX12_reads 157 = .ok (.invokevirtual 188, 3) := by decide +kernel
theorem dX12_reads_160 : decode cX12_reads 160 = .ok (.ifCond .eq 100, 3) := by decide +kernel
theorem dX12_reads_163 : decode cX12_reads 163 = .ok (.aload_n 0, 1) := by decide +kernel
theorem dX12_reads_164 : decode cX12_reads 164 = .ok (.iload_n 1, 1) := by decide +kernel
theorem dX12_reads_165 : decode cX12_reads 165 = .ok (.bipush 48, 2) := by decide +kernel
theorem dX12_reads_167 : decode cX12_reads 167 = .ok (.isub, 1) := by decide +kernel
theorem dX12_reads_168 : decode cX12_reads 168 = .ok (.putfield 179, 3) := by decide +kernel
theorem dX12_reads_171 : decode cX12_reads 171 = .ok (.aload_n 0, 1) := by decide +kernel
theorem dX12_reads_172 : decode cX12_reads 172 = .ok (.aload_n 0, 1) := by decide +kernel
theorem dX12_reads_173 : decode cX12_reads 173 = .ok (.aload_n 0, 1) := by decide +kernel
theorem dX12_reads_174 : decode cX12_reads 174 = .ok (.getfield 166, 3) := by decide +kernel
theorem dX12_reads_177 : decode cX12_reads 177 = .ok (.invokevirtual 169, 3) := by decide +kernel
theorem dX12_reads_180 : decode cX12_reads 180 = .ok (.invokevirtual 188, 3) := by decide +kernel
theorem dX12_reads_183 : decode cX12_reads 183 = .ok (.ifCond .eq 56, 3) := by decide +kernel
theorem dX12_reads_186 : decode cX12_reads 186 = .ok (.aload_n 0, 1) := by decide +kernel
theorem dX12_reads_187 : decode cX12_reads 187 = .ok (.aload_n 0, 1) := by decide +kernel
theorem dX12_reads_188 : decode cX12_reads 188 = .ok (.getfield 179, 3) := by decide +kernel
theorem dX12_reads_191 : decode cX12_reads 191 = .ok (.sipush 10000, 3) := by decide +kernel
theorem dX12_reads_194 : decode cX12_reads 194 = .ok (.if_icmp .ge 25, 3) := by decide +kernel
theorem dX12_reads_197 : decode cX12_reads 197 = .ok (.bipush 10, 2) := by decide +kernel
theorem dX12_reads_199 : decode cX12_reads 199 = .ok (.aload_n 0, 1) := by decide +kernel
theorem dX12_reads_200 : decode cX12_reads 200 = .ok (.getfield 179, 3) := by decide +kernel
theorem dX12_reads_203 : decode cX12_reads 203 = .ok (.imul, 1) := by decide +kernel
theorem dX12_reads_204 : decode cX12_reads 204 = .ok (.aload_n 0, 1) := by decide +kernel
theorem dX12_reads_205 : decode cX12_reads 205 = .ok (.aload_n 0, 1) := by decide +kernel
theorem dX12_reads_206 : decode cX12_reads 206 = .ok (.getfield 166, 3) := by decide +kernel
theorem dX12_reads_209 : decode cX12_reads 209 = .ok (.invokevirtual 169, 3) := by decide +kernel
theorem dX12_reads_212 : decode cX12_reads 212 = .ok (.iadd, 1) := by decide +kernel
theorem dX12_reads_213 : decode cX12_reads 213 = .ok (.bipush 48, 2) := by decide +kernel
theorem dX12_reads_215 : decode cX12_reads 215 = .ok (.isub, 1) := by decide +kernel
theorem dX12_reads_216 : decode cX12_reads 216 = .ok (.goto 7, 3) := by decide +kernel
theorem dX12_reads_219 : decode cX12_reads 219 = .ok (.aload_n 0, 1) := by decide +kernel
theorem dX12_reads_220 : decode cX12_reads 220 = .ok (.getfield 179, 3) := by decide +kernel
theorem dX12_reads_223 : decode cX12_reads 223 = .ok (.putfield 179, 3) := by decide +kernel
theorem dX12_reads_226 : decode cX12_reads 226 = .ok (.aload_n 0, 1) := by decide +kernel
theorem dX12_reads_227 : decode cX12_reads 227 = .ok (.aload_n 0, 1) := by decide +kernel
theorem dX12_reads_228 : decode cX12_reads 228 = .ok (.getfield 166, 3) := by decide +kernel
theorem dX12_reads_231 : decode cX12_reads 231 = .ok (.iconst 1, 1) := by decide +kernel
theorem dX12_reads_232 : decode cX12_reads 232 = .ok (.iadd, 1) := by decide +kernel
theorem dX12_reads_233 : decode cX12_reads 233 = .ok (.putfield 166, 3) := by decide +kernel
theorem dX12_reads_236 : decode cX12_reads 236 = .ok (.goto (-65), 3) := by decide +kernel
theorem dX12_reads_239 : decode cX12_reads 239 = .ok (.aload_n 0, 1) := by decide +kernel
theorem dX12_reads_240 : decode cX12_reads 240 = .ok (.getfield 166, 3) := by decide +kernel
theorem dX12_reads_243 : decode cX12_reads 243 = .ok (.aload_n 0, 1) := by decide +kernel
theorem dX12_reads_244 : decode cX12_reads 244 = .ok (.getfield 173, 3) := by decide +kernel
theorem dX12_reads_247 : decode cX12_reads 247 = .ok (.isub, 1) := by decide +kernel
theorem dX12_reads_248 : decode cX12_reads 248 = .ok (.iconst 5, 1) := by decide +kernel
theorem dX12_reads_249 : decode cX12_reads 249 = .ok (.if_icmp .ge 24, 3) := by decide +kernel
theorem dX12_reads_252 : decode cX12_reads 252 = .ok (.aload_n 0, 1) := by decide +kernel
theorem dX12_reads_253 : decode cX12_reads 253 = .ok (.iconst 3, 1) := by decide +kernel
theorem dX12_reads_254 : decode cX12_reads 254 = .ok (.putfield 176, 3) := by decide +kernel
theorem dX12_reads_257 : decode cX12_reads 257 = .ok (.goto 16, 3) := by decide +kernel
theorem dX12_reads_260 : decode cX12_reads 260 = .ok (.aload_n 0, 1) := by decide +kernel
theorem dX12_reads_261 : decode cX12_reads 261 = .ok (.iload_n 1, 1) := by decide +kernel
theorem dX12_reads_262 : decode cX12_reads 262 = .ok (.invokevirtual 191, 3) := by decide +kernel
theorem dX12_reads_265 : decode cX12_reads 265 = .ok (.ifCond .eq 8, 3) := by decide +kernel
theorem dX12_reads_268 : decode cX12_reads 268 = .ok (.aload_n 0, 1) := by decide +kernel
theorem dX12_reads_269 : decode cX12_reads 269 = .ok (.iconst 4, 1) := by decide +kernel
theorem dX12_reads_270 : decode cX12_reads 270 = .ok (.putfield 176, 3) := by decide +kernel
theorem dX12_reads_273 : decode cX12_reads 273 = .ok (.return_, 1) := by decide +kernel
theorem dX12_errs_0 : decode cX12_errs 0 = .ok (.aload_n 0, 1) := by decide +kernel
theorem dX12_errs_1 : decode cX12_errs 1 = .ok (.iload_n 1, 1) := by decide +kernel
theorem dX12_errs_2 : decode cX12_errs 2 = .ok (.putfield 194, 3) := by decide +kernel
theorem dX12_errs_5 : decode cX12_errs 5 = .ok (.aload_n 0, 1) := by decide +kernel
theorem dX12_errs_6 : decode cX12_errs 6 = .ok (.aload_n 0, 1) := by decide +kernel
theorem dX12_errs_7 : decode cX12_errs 7 = .ok (.getfield 173, 3) := by decide +kernel
theorem dX12_errs_10 : decode cX12_errs 10 = .ok (.putfield 197, 3) := by decide +kernel
theorem dX12_errs_13 : decode cX12_errs 13 = .ok (.iconst (-1), 1) := by decide +kernel
theorem dX12_errs_14 : decode cX12_errs 14 = .ok (.ireturn, 1) := by decide +kernel
theorem dX12_isWord_0 : decode cX12_isWord 0 = .ok (.aload_n 0, 1) := by decide +kernel
theorem dX12_isWord_1 : decode cX12_isWord 1 = .ok (.getfield 176, 3) := by decide +kernel
theorem dX12_isWord_4 : decode cX12_isWord 4 = .ok (.iconst 2, 1) := by decide +kernel
theorem dX12_isWord_5 : decode cX12_isWord 5 = .ok (.if_icmp .ne 15, 3) := by decide +kernel
theorem dX12_isWord_8 : decode cX12_isWord 8 = .ok (.aload_n 0, 1) := by decide +kernel
theorem dX12_isWord_9 : decode cX12_isWord 9 = .ok (.getfield 179, 3) := by decide +kernel
theorem dX12_isWord_12 : decode cX12_isWord 12 = .ok (.iload_n 1, 1) := by decide +kernel
theorem dX12_isWord_13 : decode cX12_isWord 13 = .ok (.if_icmp .ne 7, 3) := by decide +kernel
theorem dX12_isWord_16 : decode cX12_isWord 16 = .ok (.iconst 1, 1) := by decide +kernel
theorem dX12_isWord_17 : decode cX12_isWord 17 = .ok (.goto 4, 3) := by decide +kernel
theorem dX12_isWord_20 : decode cX12_isWord 20 = .ok (.iconst 0, 1) := by decide +kernel
theorem dX12_isWord_21 : decode cX12_isWord 21 = .ok (.ireturn, 1) := by decide +kernel
theorem dX12_isSign_0 : decode cX12_isSign 0 = .ok (.aload_n 0, 1) := by decide +kernel
theorem dX12_isSign_1 : decode cX12_isSign 1 = .ok (.getfield 176, 3) := by decide +kernel
theorem dX12_isSign_4 : decode cX12_isSign 4 = .ok (.iconst 4, 1) := by decide +kernel
theorem dX12_isSign_5 : decode cX12_isSign 5 = .ok (.if_icmp .ne 15, 3) := by decide +kernel
theorem dX12_isSign_8 : decode cX12_isSign 8 = .ok (.aload_n 0, 1) := by decide +kernel
theorem dX12_isSign_9 : decode cX12_isSign 9 = .ok (.getfield 179, 3) := by decide +kernel
theorem dX12_isSign_12 : decode cX12_isSign 12 = .ok (.iload_n 1, 1) := by decide +kernel
theorem dX12_isSign_13 : decode cX12_isSign 13 = .ok (.if_icmp .ne 7, 3) := by decide +kernel
theorem dX12_isSign_16 : decode cX12_isSign 16 = .ok (.iconst 1, 1) := by decide +kernel
theorem dX12_isSign_17 : decode cX12_isSign 17 = .ok (.goto 4, 3) := by decide +kernel
theorem dX12_isSign_20 : decode cX12_isSign 20 = .ok (.iconst 0, 1) := by decide +kernel
theorem dX12_isSign_21 : decode cX12_isSign 21 = .ok (.ireturn, 1) := by decide +kernel
theorem dX12_emits_0 : decode cX12_emits 0 = .ok (.aload_n 0, 1) := by decide +kernel
theorem dX12_emits_1 : decode cX12_emits 1 = .ok (.getfield 49, 3) := by decide +kernel
theorem dX12_emits_4 : decode cX12_emits 4 = .ok (.sipush 800, 3) := by decide +kernel
theorem dX12_emits_7 : decode cX12_emits 7 = .ok (.aload_n 0, 1) := by decide +kernel
theorem dX12_emits_8 : decode cX12_emits 8 = .ok (.getfield 200, 3) := by decide +kernel
theorem dX12_emits_11 : decode cX12_emits 11 = .ok (.iadd, 1) := by decide +kernel
theorem dX12_emits_12 : decode cX12_emits 12 = .ok (.iload_n 1, 1) := by decide +kernel
theorem dX12_emits_13 : decode cX12_emits 13 = .ok (.iastore, 1) := by decide +kernel
theorem dX12_emits_14 : decode cX12_emits 14 = .ok (.aload_n 0, 1) := by decide +kernel
theorem dX12_emits_15 : decode cX12_emits 15 = .ok (.getfield 52, 3) := by decide +kernel
theorem dX12_emits_18 : decode cX12_emits 18 = .ok (.sipush 800, 3) := by decide +kernel
theorem dX12_emits_21 : decode cX12_emits 21 = .ok (.aload_n 0, 1) := by decide +kernel
theorem dX12_emits_22 : decode cX12_emits 22 = .ok (.getfield 200, 3) := by decide +kernel
theorem dX12_emits_25 : decode cX12_emits 25 = .ok (.iadd, 1) := by decide +kernel
theorem dX12_emits_26 : decode cX12_emits 26 = .ok (.iload_n 2, 1) := by decide +kernel
theorem dX12_emits_27 : decode cX12_emits 27 = .ok (.iastore, 1) := by decide +kernel
theorem dX12_emits_28 : decode cX12_emits 28 = .ok (.aload_n 0, 1) := by decide +kernel
theorem dX12_emits_29 : decode cX12_emits 29 = .ok (.aload_n 0, 1) := by decide +kernel
theorem dX12_emits_30 : decode cX12_emits 30 = .ok (.getfield 200, 3) := by decide +kernel
theorem dX12_emits_33 : decode cX12_emits 33 = .ok (.iconst 1, 1) := by decide +kernel
theorem dX12_emits_34 : decode cX12_emits 34 = .ok (.iadd, 1) := by decide +kernel
theorem dX12_emits_35 : decode cX12_emits 35 = .ok (.putfield 200, 3) := by decide +kernel
theorem dX12_emits_38 : decode cX12_emits 38 = .ok (.return_, 1) := by decide +kernel
theorem dX12_canAsk_0 : decode cX12_canAsk 0 = .ok (.aload_n 0, 1) := by decide +kernel
theorem dX12_canAsk_1 : decode cX12_canAsk 1 = .ok (.iload_n 1, 1) := by decide +kernel
theorem dX12_canAsk_2 : decode cX12_canAsk 2 = .ok (.bipush 7, 2) := by decide +kernel
theorem dX12_canAsk_4 : decode cX12_canAsk 4 = .ok (.bipush 14, 2) := by decide +kernel
theorem dX12_canAsk_6 : decode cX12_canAsk 6 = .ok (.invokevirtual 142, 3) := by decide +kernel
theorem dX12_canAsk_9 : decode cX12_canAsk 9 = .ok (.ireturn, 1) := by decide +kernel
theorem dX12_readUnit_0 : decode cX12_readUnit 0 = .ok (.aload_n 0, 1) := by decide +kernel
theorem dX12_readUnit_1 : decode cX12_readUnit 1 = .ok (.getfield 176, 3) := by decide +kernel
theorem dX12_readUnit_4 : decode cX12_readUnit 4 = .ok (.iconst 2, 1) := by decide +kernel
theorem dX12_readUnit_5 : decode cX12_readUnit 5 = .ok (.if_icmp .ne 18, 3) := by decide +kernel
theorem dX12_readUnit_8 : decode cX12_readUnit 8 = .ok (.aload_n 0, 1) := by decide +kernel
theorem dX12_readUnit_9 : decode cX12_readUnit 9 = .ok (.aload_n 0, 1) := by decide +kernel
theorem dX12_readUnit_10 : decode cX12_readUnit 10 = .ok (.getfield 179, 3) := by decide +kernel
theorem dX12_readUnit_13 : decode cX12_readUnit 13 = .ok (.invokevirtual 203, 3) := by decide +kernel
theorem dX12_readUnit_16 : decode cX12_readUnit 16 = .ok (.ifCond .eq 7, 3) := by decide +kernel
theorem dX12_readUnit_19 : decode cX12_readUnit 19 = .ok (.iconst 1, 1) := by decide +kernel
theorem dX12_readUnit_20 : decode cX12_readUnit 20 = .ok (.goto 4, 3) := by decide +kernel
theorem dX12_readUnit_23 : decode cX12_readUnit 23 = .ok (.iconst 0, 1) := by decide +kernel
theorem dX12_readUnit_24 : decode cX12_readUnit 24 = .ok (.istore_n 1, 1) := by decide +kernel
theorem dX12_readUnit_25 : decode cX12_readUnit 25 = .ok (.iload_n 1, 1) := by decide +kernel
theorem dX12_readUnit_26 : decode cX12_readUnit 26 = .ok (.ifCond .ne 17, 3) := by decide +kernel
theorem dX12_readUnit_29 : decode cX12_readUnit 29 = .ok (.aload_n 0, 1) := by decide +kernel
theorem dX12_readUnit_30 : decode cX12_readUnit 30 = .ok (.getfield 176, 3) := by decide +kernel
theorem dX12_readUnit_33 : decode cX12_readUnit 33 = .ok (.iconst 3, 1) := by decide +kernel
theorem dX12_readUnit_34 : decode cX12_readUnit 34 = .ok (.if_icmp .eq 9, 3) := by decide +kernel
theorem dX12_readUnit_37 : decode cX12_readUnit 37 = .ok (.aload_n 0, 1) := by decide +kernel
theorem dX12_readUnit_38 : decode cX12_readUnit 38 = .ok (.iconst 1, 1) := by decide +kernel
theorem dX12_readUnit_39 : decode cX12_readUnit 39 = .ok (.invokevirtual 206, 3) := by decide +kernel
theorem dX12_readUnit_42 : decode cX12_readUnit 42 = .ok (.ireturn, 1) := by decide +kernel
theorem dX12_readUnit_43 : decode cX12_readUnit 43 = .ok (.aload_n 0, 1) := by decide +kernel
theorem dX12_readUnit_44 : decode cX12_readUnit 44 = .ok (.iload_n 1, 1) := by decide +kernel
theorem dX12_readUnit_45 : decode cX12_readUnit 45 = .ok (.ifCond .eq 7, 3) := by decide +kernel
theorem dX12_readUnit_48 : decode cX12_readUnit 48 = .ok (.iconst 1, 1) := by decide +kernel
theorem dX12_readUnit_49 : decode cX12_readUnit 49 = .ok (.goto 4, 3) := by decide +kernel
theorem dX12_readUnit_52 : decode cX12_readUnit 52 = .ok (.iconst 0, 1) := by decide +kernel
theorem dX12_readUnit_53 : decode cX12_readUnit 53 = .ok (.iload_n 1, 1) := by decide +kernel
theorem dX12_readUnit_54 : decode cX12_readUnit 54 = .ok (.ifCond .eq 13, 3) := by decide +kernel
theorem dX12_readUnit_57 : decode cX12_readUnit 57 = .ok (.aload_n 0, 1) := by decide +kernel
theorem dX12_readUnit_58 : decode cX12_readUnit 58 = .ok (.getfield 179, 3) := by decide +kernel
theorem dX12_readUnit_61 : decode cX12_readUnit 61 = .ok (.bipush 7, 2) := by decide +kernel
theorem dX12_readUnit_63 : decode cX12_readUnit 63 = .ok (.isub, 1) := by decide +kernel
theorem dX12_readUnit_64 : decode cX12_readUnit 64 = .ok (.goto 7, 3) := by decide +kernel
theorem dX12_readUnit_67 : decode cX12_readUnit 67 = .ok (.aload_n 0, 1) := by decide +kernel
theorem dX12_readUnit_68 : decode cX12_readUnit 68 = .ok (.getfield 179, 3) := by decide +kernel
theorem dX12_readUnit_71 : decode cX12_readUnit 71 = .ok (.invokevirtual 209, 3) := by decide +kernel
theorem dX12_readUnit_74 : decode cX12_readUnit 74 = .ok (.aload_n 0, 1) := by decide +kernel
theorem dX12_readUnit_75 : decode cX12_readUnit 75 = .ok (.invokevirtual 213, 3) := by decide +kernel
theorem dX12_readUnit_78 : decode cX12_readUnit 78 = .ok (.iconst 0, 1) := by decide +kernel
theorem dX12_readUnit_79 : decode cX12_readUnit 79 = .ok (.ireturn, 1) := by decide +kernel
theorem dX12_readProduct_0 : decode cX12_readProduct 0 = .ok (.aload_n 0, 1) := by decide +kernel
theorem dX12_readProduct_1 : decode cX12_readProduct 1 = .ok (.invokevirtual 216, 3) := by decide +kernel
theorem dX12_readProduct_4 : decode cX12_readProduct 4 = .ok (.iconst (-1), 1) := by decide +kernel
theorem dX12_readProduct_5 : decode cX12_readProduct 5 = .ok (.if_icmp .ne 5, 3) := by decide +kernel
theorem dX12_readProduct_8 : decode cX12_readProduct 8 = .ok (.iconst (-1), 1) := by decide +kernel
theorem dX12_readProduct_9 : decode cX12_readProduct 9 = .ok (.ireturn, 1) := by decide +kernel
theorem dX12_readProduct_10 : decode cX12_readProduct 10 = .ok (.aload_n 0, 1) := by decide +kernel
theorem dX12_readProduct_11 : decode cX12_readProduct 11 = .ok (.bipush 42, 2) := by decide +kernel
theorem dX12_readProduct_13 : decode cX12_readProduct 13 = .ok (.invokevirtual 220, 3) := by decide +kernel
theorem dX12_readProduct_16 : decode cX12_readProduct 16 = .ok (.ifCond .ne 12, 3) := by decide +kernel
theorem dX12_readProduct_19 : decode cX12_readProduct 19 = .ok (.aload_n 0, 1) := by decide +kernel
theorem dX12_readProduct_20 : decode cX12_readProduct 20 = .ok (.bipush 47, 2) := by decide +kernel
theorem dX12_readProduct_22 : decode cX12_readProduct 22 = .ok (.invokevirtual 220, 3) := by decide +kernel
theorem dX12_readProduct_25 : decode cX12_readProduct 25 = .ok (.ifCond .eq 76, 3) := by decide +kernel
theorem dX12_readProduct_28 : decode cX12_readProduct 28 = .ok (.aload_n 0, 1) := by decide +kernel
theorem dX12_readProduct_29 : decode cX12_readProduct 29 = .ok (.bipush 42, 2) := by decide +kernel
theorem dX12_readProduct_31 : decode cX12_readProduct 31 = .ok (.invokevirtual 220, 3) := by decide +kernel
theorem dX12_readProduct_34 : decode cX12_readProduct 34 = .ok (.istore_n 1, 1) := by decide +kernel
theorem dX12_readProduct_35 : decode cX12_readProduct 35 = .ok (.aload_n 0, 1) := by decide +kernel
theorem dX12_readProduct_36 : decode cX12_readProduct 36 = .ok (.invokevirtual 213, 3) := by decide +kernel
theorem dX12_readProduct_39 : decode cX12_readProduct 39 = .ok (.iload_n 1, 1) := by decide +kernel
theorem dX12_readProduct_40 : decode cX12_readProduct 40 = .ok (.ifCond .ne 17, 3) := by decide +kernel
theorem dX12_readProduct_43 : decode cX12_readProduct 43 = .ok (.aload_n 0, 1) := by decide +kernel
theorem dX12_readProduct_44 : decode cX12_readProduct 44 = .ok (.getfield 176, 3) := by decide +kernel
theorem dX12_readProduct_47 : decode cX12_readProduct 47 = .ok (.iconst 3, 1) := by decide +kernel
theorem dX12_readProduct_48 : decode cX12_readProduct 48 = .ok (.if_icmp .eq 9, 3) := by decide +kernel
theorem dX12_readProduct_51 : decode cX12_readProduct 51 = .ok (.aload_n 0, 1) := by decide +kernel
theorem dX12_readProduct_52 : decode cX12_readProduct 52 = .ok (.iconst 1, 1) := by decide +kernel
theorem dX12_readProduct_53 : decode cX12_readProduct 53 = .ok (.invokevirtual 206, 3) := by decide +kernel
theorem dX12_readProduct_56 : decode cX12_readProduct 56 = .ok (.ireturn, 1) := by decide +kernel
theorem dX12_readProduct_57 : decode cX12_readProduct 57 = .ok (.iload_n 1, 1) := by decide +kernel
theorem dX12_readProduct_58 : decode cX12_readProduct 58 = .ok (.ifCond .ne 16, 3) := by decide +kernel
theorem dX12_readProduct_61 : decode cX12_readProduct 61 = .ok (.aload_n 0, 1) := by decide +kernel
theorem dX12_readProduct_62 : decode cX12_readProduct 62 = .ok (.getfield 179, 3) := by decide +kernel
theorem dX12_readProduct_65 : decode cX12_readProduct 65 = .ok (.ifCond .ne 9, 3) := by decide +kernel
theorem dX12_readProduct_68 : decode cX12_readProduct 68 = .ok (.aload_n 0, 1) := by decide +kernel
theorem dX12_readProduct_69 : decode cX12_readProduct 69 = .ok (.iconst 2, 1) := by decide +kernel
theorem dX12_readProduct_70 : decode cX12_readProduct 70 = .ok (.invokevirtual 206, 3) := by decide +kernel
theorem dX12_readProduct_73 : decode cX12_readProduct 73 = .ok (.ireturn, 1) := by decide +kernel
theorem dX12_readProduct_74 : decode cX12_readProduct 74 = .ok (.aload_n 0, 1) := by decide +kernel
theorem dX12_readProduct_75 : decode cX12_readProduct 75 = .ok (.invokevirtual 216, 3) := by decide +kernel
theorem dX12_readProduct_78 : decode cX12_readProduct 78 = .ok (.iconst (-1), 1) := by decide +kernel
theorem dX12_readProduct_79 : decode cX12_readProduct 79 = .ok (.if_icmp .ne 5, 3) := by decide +kernel
theorem dX12_readProduct_82 : decode cX12_readProduct 82 = .ok (.iconst (-1), 1) := by decide +kernel
theorem dX12_readProduct_83 : decode cX12_readProduct 83 = .ok (.ireturn, 1) := by decide +kernel
theorem dX12_readProduct_84 : decode cX12_readProduct 84 = .ok (.aload_n 0, 1) := by decide +kernel
theorem dX12_readProduct_85 : decode cX12_readProduct 85 = .ok (.iload_n 1, 1) := by decide +kernel
theorem dX12_readProduct_86 : decode cX12_readProduct 86 = .ok (.ifCond .eq 7, 3) := by decide +kernel
theorem dX12_readProduct_89 : decode cX12_readProduct 89 = .ok (.iconst 4, 1) := by decide +kernel
theorem dX12_readProduct_90 : decode cX12_readProduct 90 = .ok (.goto 4, 3) := by decide +kernel
theorem dX12_readProduct_93 : decode cX12_readProduct 93 = .ok (.iconst 5, 1) := by decide +kernel
theorem dX12_readProduct_94 : decode cX12_readProduct 94 = .ok (.iconst 0, 1) := by decide +kernel
theorem dX12_readProduct_95 : decode cX12_readProduct 95 = .ok (.invokevirtual 209, 3) := by decide +kernel
theorem dX12_readProduct_98 : decode cX12_readProduct 98 = .ok (.goto (-88), 3) := by decide +kernel
theorem dX12_readProduct_101 : decode cX12_readProduct 101 = .ok (.iconst 0, 1) := by decide +kernel
theorem dX12_readProduct_102 : decode cX12_readProduct 102 = .ok (.ireturn, 1) := by decide +kernel
theorem dX12_readSum_0 : decode cX12_readSum 0 = .ok (.aload_n 0, 1) := by decide +kernel
theorem dX12_readSum_1 : decode cX12_readSum 1 = .ok (.invokevirtual 223, 3) := by decide +kernel
theorem dX12_readSum_4 : decode cX12_readSum 4 = .ok (.iconst (-1), 1) := by decide +kernel
theorem dX12_readSum_5 : decode cX12_readSum 5 = .ok (.if_icmp .ne 5, 3) := by decide +kernel
theorem dX12_readSum_8 : decode cX12_readSum 8 = .ok (.iconst (-1), 1) := by decide +kernel
theorem dX12_readSum_9 : decode cX12_readSum 9 = .ok (.ireturn, 1) := by decide +kernel
theorem dX12_readSum_10 : decode cX12_readSum 10 = .ok (.aload_n 0, 1) := by decide +kernel
theorem dX12_readSum_11 : decode cX12_readSum 11 = .ok (.bipush 43, 2) := by decide +kernel
theorem dX12_readSum_13 : decode cX12_readSum 13 = .ok (.invokevirtual 220, 3) := by decide +kernel
theorem dX12_readSum_16 : decode cX12_readSum 16 = .ok (.ifCond .ne 12, 3) := by decide +kernel
theorem dX12_readSum_19 : decode cX12_readSum 19 = .ok (.aload_n 0, 1) := by decide +kernel
theorem dX12_readSum_20 : decode cX12_readSum 20 = .ok (.bipush 45, 2) := by decide +kernel
theorem dX12_readSum_22 : decode cX12_readSum 22 = .ok (.invokevirtual 220, 3) := by decide +kernel
theorem dX12_readSum_25 : decode cX12_readSum 25 = .ok (.ifCond .eq 41, 3) := by decide +kernel
theorem dX12_readSum_28 : decode cX12_readSum 28 = .ok (.aload_n 0, 1) := by decide +kernel
theorem dX12_readSum_29 : decode cX12_readSum 29 = .ok (.getfield 179, 3) := by decide +kernel
theorem dX12_readSum_32 : decode cX12_readSum 32 = .ok (.bipush 43, 2) := by decide +kernel
theorem dX12_readSum_34 : decode cX12_readSum 34 = .ok (.if_icmp .ne 7, 3) := by decide +kernel
theorem dX12_readSum_37 : decode cX12_readSum 37 = .ok (.iconst 2, 1) := by decide +kernel
theorem dX12_readSum_38 : decode cX12_readSum 38 = .ok (.goto 4, 3) := by decide +kernel
theorem dX12_readSum_41 : decode cX12_readSum 41 = .ok (.iconst 3, 1) := by decide +kernel
theorem dX12_readSum_42 : decode cX12_readSum 42 = .ok (.istore_n 1, 1) := by decide +kernel
theorem dX12_readSum_43 : decode cX12_readSum 43 = .ok (.aload_n 0, 1) := by decide +kernel
theorem dX12_readSum_44 : decode cX12_readSum 44 = .ok (.invokevirtual 213, 3) := by decide +kernel
theorem dX12_readSum_47 : decode cX12_readSum 47 = .ok (.aload_n 0, 1) := by decide +kernel
theorem dX12_readSum_48 : decode cX12_readSum 48 = .ok (.invokevirtual 223, 3) := by decide +kernel
theorem dX12_readSum_51 : decode cX12_readSum 51 = .ok (.iconst (-1), 1) := by decide +kernel
theorem dX12_readSum_52 : decode cX12_readSum 52 = .ok (.if_icmp .ne 5, 3) := by decide +kernel
theorem dX12_readSum_55 : decode cX12_readSum 55 = .ok (.iconst (-1), 1) := by decide +kernel
theorem dX12_readSum_56 : decode cX12_readSum 56 = .ok (.ireturn, 1) := by decide +kernel
theorem dX12_readSum_57 : decode cX12_readSum 57 = .ok (.aload_n 0, 1) := by decide +kernel
theorem dX12_readSum_58 : decode cX12_readSum 58 = .ok (.iload_n 1, 1) := by decide +kernel
theorem dX12_readSum_59 : decode cX12_readSum 59 = .ok (.iconst 0, 1) := by decide +kernel
theorem dX12_readSum_60 : decode cX12_readSum 60 = .ok (.invokevirtual 209, 3) := by decide +kernel
theorem dX12_readSum_63 : decode cX12_readSum 63 = .ok (.goto (-53), 3) := by decide +kernel
theorem dX12_readSum_66 : decode cX12_readSum 66 = .ok (.iconst 0, 1) := by decide +kernel
theorem dX12_readSum_67 : decode cX12_readSum 67 = .ok (.ireturn, 1) := by decide +kernel
theorem dX12_readCompared_0 : decode cX12_readCompared 0 = .ok (.aload_n 0, 1) := by decide +kernel
theorem dX12_readCompared_1 : decode cX12_readCompared 1 = .ok (.invokevirtual 226, 3) := by decide +kernel
theorem dX12_readCompared_4 : decode cX12_readCompared 4 = .ok (.iconst (-1), 1) := by decide +kernel
theorem dX12_readCompared_5 : decode cX12_readCompared 5 = .ok (.if_icmp .ne 5, 3) := by decide +kernel
theorem dX12_readCompared_8 : decode cX12_readCompared 8 = .ok (.iconst (-1), 1) := by decide +kernel
theorem dX12_readCompared_9 : decode cX12_readCompared 9 = .ok (.ireturn, 1) := by decide +kernel
theorem dX12_readCompared_10 : decode cX12_readCompared 10 = .ok (.aload_n 0, 1) := by decide +kernel
theorem dX12_readCompared_11 : decode cX12_readCompared 11 = .ok (.bipush 60, 2) := by decide +kernel
theorem dX12_readCompared_13 : decode cX12_readCompared 13 = .ok (.invokevirtual 220, 3) := by decide +kernel
theorem dX12_readCompared_16 : decode cX12_readCompared 16 = .ok (.ifCond .ne 27, 3) := by decide +kernel
theorem dX12_readCompared_19 : decode cX12_readCompared 19 = .ok (.aload_n 0, 1) := by decide +kernel
theorem dX12_readCompared_20 : decode cX12_readCompared 20 = .ok (.bipush 61, 2) := by decide +kernel
theorem dX12_readCompared_22 : decode cX12_readCompared 22 = .ok (.invokevirtual 220, 3) := by decide +kernel
theorem dX12_readCompared_25 : decode cX12_readCompared 25 = .ok (.ifCond .ne 18, 3) := by decide +kernel
theorem dX12_readCompared_28 : decode cX12_readCompared 28 = .ok (.aload_n 0, 1) := by decide +kernel
theorem dX12_readCompared_29 : decode cX12_readCompared 29 = .ok (.bipush 62, 2) := by decide +kernel
theorem dX12_readCompared_31 : decode cX12_readCompared 31 = .ok (.invokevirtual 220, 3) := by decide +kernel
theorem dX12_readCompared_34 : decode cX12_readCompared 34 = .ok (.ifCond .ne 9, 3) := by decide +kernel
theorem dX12_readCompared_37 : decode cX12_readCompared 37 = .ok (.aload_n 0, 1) := by decide +kernel
theorem dX12_readCompared_38 : decode cX12_readCompared 38 = .ok (.iconst 1, 1) := by decide +kernel
theorem dX12_readCompared_39 : decode cX12_readCompared 39 = .ok (.invokevirtual 206, 3) := by decide +kernel
theorem dX12_readCompared_42 : decode cX12_readCompared 42 = .ok (.ireturn, 1) := by decide +kernel
theorem dX12_readCompared_43 : decode cX12_readCompared 43 = .ok (.aload_n 0, 1) := by decide +kernel
theorem dX12_readCompared_44 : decode cX12_readCompared 44 = .ok (.getfield 179, 3) := by decide +kernel
theorem dX12_readCompared_47 : decode cX12_readCompared 47 = .ok (.bipush 60, 2) := by decide +kernel
theorem dX12_readCompared_49 : decode cX12_readCompared 49 = .ok (.if_icmp .ne 8, 3) := by decide +kernel
theorem dX12_readCompared_52 : decode cX12_readCompared 52 = .ok (.bipush 6, 2) := by decide +kernel
theorem dX12_readCompared_54 : decode cX12_readCompared 54 = .ok (.goto 19, 3) := by decide +kernel
theorem dX12_readCompared_57 : decode cX12_readCompared 57 = .ok (.aload_n 0, 1) := by decide +kernel
theorem dX12_readCompared_58 : decode cX12_readCompared 58 = .ok (.getfield 179, 3) := by decide +kernel
theorem dX12_readCompared_61 : decode cX12_readCompared 61 = .ok (.bipush 61, 2) := by decide +kernel
theorem dX12_readCompared_63 : decode cX12_readCompared 63 = .ok (.if_icmp .ne 8, 3) := by decide +kernel
theorem dX12_readCompared_66 : decode cX12_readCompared 66 = .ok (.bipush 7, 2) := by decide +kernel
theorem dX12_readCompared_68 : decode cX12_readCompared 68 = .ok (.goto 5, 3) := by decide +kernel
theorem dX12_readCompared_71 : decode cX12_readCompared 71 = .ok (.bipush 8, 2) := by decide +kernel
theorem dX12_readCompared_73 : decode cX12_readCompared 73 = .ok (.istore_n 1, 1) := by decide +kernel
theorem dX12_readCompared_74 : decode cX12_readCompared 74 = .ok (.aload_n 0, 1) := by decide +kernel
theorem dX12_readCompared_75 : decode cX12_readCompared 75 = .ok (.invokevirtual 213, 3) := by decide +kernel
theorem dX12_readCompared_78 : decode cX12_readCompared 78 = .ok (.aload_n 0, 1) := by decide +kernel
theorem dX12_readCompared_79 : decode cX12_readCompared 79 = .ok (.invokevirtual 226, 3) := by decide +kernel
theorem dX12_readCompared_82 : decode cX12_readCompared 82 = .ok (.iconst (-1), 1) := by decide +kernel
theorem dX12_readCompared_83 : decode cX12_readCompared 83 = .ok (.if_icmp .ne 5, 3) := by decide +kernel
theorem dX12_readCompared_86 : decode cX12_readCompared 86 = .ok (.iconst (-1), 1) := by decide +kernel
theorem dX12_readCompared_87 : decode cX12_readCompared 87 = .ok (.ireturn, 1) := by decide +kernel
theorem dX12_readCompared_88 : decode cX12_readCompared 88 = .ok (.aload_n 0, 1) := by decide +kernel
theorem dX12_readCompared_89 : decode cX12_readCompared 89 = .ok (.iload_n 1, 1) := by decide +kernel
theorem dX12_readCompared_90 : decode cX12_readCompared 90 = .ok (.iconst 0, 1) := by decide +kernel
theorem dX12_readCompared_91 : decode cX12_readCompared 91 = .ok (.invokevirtual 209, 3) := by decide +kernel
theorem dX12_readCompared_94 : decode cX12_readCompared 94 = .ok (.iconst 0, 1) := by decide +kernel
theorem dX12_readCompared_95 : decode cX12_readCompared 95 = .ok (.ireturn, 1) := by decide +kernel
theorem dX12_waits_0 : decode cX12_waits 0 = .ok (.aload_n 0, 1) := by decide +kernel
theorem dX12_waits_1 : decode cX12_waits 1 = .ok (.getfield 55, 3) := by decide +kernel
theorem dX12_waits_4 : decode cX12_waits 4 = .ok (.aload_n 0, 1) := by decide +kernel
theorem dX12_waits_5 : decode cX12_waits 5 = .ok (.getfield 229, 3) := by decide +kernel
theorem dX12_waits_8 : decode cX12_waits 8 = .ok (.iload_n 1, 1) := by decide +kernel
theorem dX12_waits_9 : decode cX12_waits 9 = .ok (.iastore, 1) := by decide +kernel
theorem dX12_waits_10 : decode cX12_waits 10 = .ok (.aload_n 0, 1) := by decide +kernel
theorem dX12_waits_11 : decode cX12_waits 11 = .ok (.aload_n 0, 1) := by decide +kernel
theorem dX12_waits_12 : decode cX12_waits 12 = .ok (.getfield 229, 3) := by decide +kernel
theorem dX12_waits_15 : decode cX12_waits 15 = .ok (.iconst 1, 1) := by decide +kernel
theorem dX12_waits_16 : decode cX12_waits 16 = .ok (.iadd, 1) := by decide +kernel
theorem dX12_waits_17 : decode cX12_waits 17 = .ok (.putfield 229, 3) := by decide +kernel
theorem dX12_waits_20 : decode cX12_waits 20 = .ok (.return_, 1) := by decide +kernel
theorem dX12_settles_0 : decode cX12_settles 0 = .ok (.aload_n 0, 1) := by decide +kernel
theorem dX12_settles_1 : decode cX12_settles 1 = .ok (.getfield 229, 3) := by decide +kernel
theorem dX12_settles_4 : decode cX12_settles 4 = .ok (.ifCond .le 53, 3) := by decide +kernel
theorem dX12_settles_7 : decode cX12_settles 7 = .ok (.aload_n 0, 1) := by decide +kernel
theorem dX12_settles_8 : decode cX12_settles 8 = .ok (.getfield 55, 3) := by decide +kernel
theorem dX12_settles_11 : decode cX12_settles 11 = .ok (.aload_n 0, 1) := by decide +kernel
theorem dX12_settles_12 : decode cX12_settles 12 = .ok (.getfield 229, 3) := by decide +kernel
theorem dX12_settles_15 : decode cX12_settles 15 = .ok (.iconst 1, 1) := by decide +kernel
theorem dX12_settles_16 : decode cX12_settles 16 = .ok (.isub, 1) := by decide +kernel
theorem dX12_settles_17 : decode cX12_settles 17 = .ok (.iaload, 1) := by decide +kernel
theorem dX12_settles_18 : decode cX12_settles 18 = .ok (.iload_n 1, 1) := by decide +kernel
theorem dX12_settles_19 : decode cX12_settles 19 = .ok (.if_icmp .ne 38, 3) := by decide +kernel
theorem dX12_settles_22 : decode cX12_settles 22 = .ok (.aload_n 0, 1) := by decide +kernel
theorem dX12_settles_23 : decode cX12_settles 23 = .ok (.aload_n 0, 1) := by decide +kernel
theorem dX12_settles_24 : decode cX12_settles 24 = .ok (.getfield 229, 3) := by decide +kernel
theorem dX12_settles_27 : decode cX12_settles 27 = .ok (.iconst 1, 1) := by decide +kernel
theorem dX12_settles_28 : decode cX12_settles 28 = .ok (.isub, 1) := by decide +kernel
theorem dX12_settles_29 : decode cX12_settles 29 = .ok (.putfield 229, 3) := by decide +kernel
theorem dX12_settles_32 : decode cX12_settles 32 = .ok (.aload_n 0, 1) := by decide +kernel
theorem dX12_settles_33 : decode cX12_settles 33 = .ok (.iload_n 1, 1) := by decide +kernel
theorem dX12_settles_34 : decode cX12_settles 34 = .ok (.iconst 0, 1) := by decide +kernel
theorem dX12_settles_35 : decode cX12_settles 35 = .ok (.invokevirtual 209, 3) := by decide +kernel
theorem dX12_settles_38 : decode cX12_settles 38 = .ok (.iload_n 1, 1) := by decide +kernel
theorem dX12_settles_39 : decode cX12_settles 39 = .ok (.bipush 9, 2) := by decide +kernel
theorem dX12_settles_41 : decode cX12_settles 41 = .ok (.if_icmp .ne (-41), 3) := by decide +kernel
theorem dX12_settles_44 : decode cX12_settles 44 = .ok (.aload_n 0, 1) := by decide +kernel
theorem dX12_settles_45 : decode cX12_settles 45 = .ok (.aload_n 0, 1) := by decide +kernel
theorem dX12_settles_46 : decode cX12_settles 46 = .ok (.getfield 232, 3) := by decide +kernel
theorem dX12_settles_49 : decode cX12_settles 49 = .ok (.iconst 1, 1) := by decide +kernel
theorem dX12_settles_50 : decode cX12_settles 50 = .ok (.isub, 1) := by decide +kernel
theorem dX12_settles_51 : decode cX12_settles 51 = .ok (.putfield 232, 3) := by decide +kernel
theorem dX12_settles_54 : decode cX12_settles 54 = .ok (.goto (-54), 3) := by decide +kernel
theorem dX12_settles_57 : decode cX12_settles 57 = .ok (.return_, 1) := by decide +kernel
theorem dX12_readAny_0 : decode cX12_readAny 0 = .ok (.iconst 0, 1) := by decide +kernel
theorem dX12_readAny_1 : decode cX12_readAny 1 = .ok (.istore_n 1, 1) := by decide +kernel
theorem dX12_readAny_2 : decode cX12_readAny 2 = .ok (.aload_n 0, 1) := by decide +kernel
theorem dX12_readAny_3 : decode cX12_readAny 3 = .ok (.iconst 0, 1) := by decide +kernel
theorem dX12_readAny_4 : decode cX12_readAny 4 = .ok (.putfield 229, 3) := by decide +kernel
theorem dX12_readAny_7 : decode cX12_readAny 7 = .ok (.iconst 1, 1) := by decide +kernel
theorem dX12_readAny_8 : decode cX12_readAny 8 = .ok (.istore_n 2, 1) := by decide +kernel
theorem dX12_readAny_9 : decode cX12_readAny 9 = .ok (.iload_n 2, 1) := by decide +kernel
theorem dX12_readAny_10 : decode cX12_readAny 10 = .ok (.ifCond .eq 99, 3) := by decide +kernel
theorem dX12_readAny_13 : decode cX12_readAny 13 = .ok (.aload_n 0, 1) := by decide +kernel
theorem dX12_readAny_14 : decode cX12_readAny 14 = .ok (.bipush 6, 2) := by decide +kernel
theorem dX12_readAny_16 : decode cX12_readAny 16 = .ok (.invokevirtual 235, 3) := by decide +kernel
theorem dX12_readAny_19 : decode cX12_readAny 19 = .ok (.istore_n 3, 1) := by decide +kernel
theorem dX12_readAny_20 : decode cX12_readAny 20 = .ok (.iload_n 3, 1) := by decide +kernel
theorem dX12_readAny_21 : decode cX12_readAny 21 = .ok (.ifCond .ne 12, 3) := by decide +kernel
theorem dX12_readAny_24 : decode cX12_readAny 24 = .ok (.aload_n 0, 1) := by decide +kernel
theorem dX12_readAny_25 : decode cX12_readAny 25 = .ok (.bipush 40, 2) := by decide +kernel
theorem dX12_readAny_27 : decode cX12_readAny 27 = .ok (.invokevirtual 220, 3) := by decide +kernel
theorem dX12_readAny_30 : decode cX12_readAny 30 = .ok (.ifCond .eq 58, 3) := by decide +kernel
theorem dX12_readAny_33 : decode cX12_readAny 33 = .ok (.aload_n 0, 1) := by decide +kernel
theorem dX12_readAny_34 : decode cX12_readAny 34 = .ok (.getfield 232, 3) := by decide +kernel
theorem dX12_readAny_37 : decode cX12_readAny 37 = .ok (.bipush 8, 2) := by decide +kernel
theorem dX12_readAny_39 : decode cX12_readAny 39 = .ok (.if_icmp .ne 9, 3) := by decide +kernel
theorem dX12_readAny_42 : decode cX12_readAny 42 = .ok (.aload_n 0, 1) := by decide +kernel
theorem dX12_readAny_43 : decode cX12_readAny 43 = .ok (.iconst 3, 1) := by decide +kernel
theorem dX12_readAny_44 : decode cX12_readAny 44 = .ok (.invokevirtual 206, 3) := by decide +kernel
theorem dX12_readAny_47 : decode cX12_readAny 47 = .ok (.ireturn, 1) := by decide +kernel
theorem dX12_readAny_48 : decode cX12_readAny 48 = .ok (.aload_n 0, 1) := by decide +kernel
theorem dX12_readAny_49 : decode cX12_readAny 49 = .ok (.aload_n 0, 1) := by decide +kernel
theorem dX12_readAny_50 : decode cX12_readAny 50 = .ok (.getfield 232, 3) := by decide +kernel
theorem dX12_readAny_53 : decode cX12_readAny 53 = .ok (.iconst 1, 1) := by decide +kernel
theorem dX12_readAny_54 : decode cX12_readAny 54 = .ok (.iadd, 1) := by decide +kernel
theorem dX12_readAny_55 : decode cX12_readAny 55 = .ok (.putfield 232, 3) := by decide +kernel
theorem dX12_readAny_58 : decode cX12_readAny 58 = .ok (.iload_n 3, 1) := by decide +kernel
theorem dX12_readAny_59 : decode cX12_readAny 59 = .ok (.ifCond .ne 7, 3) := by decide +kernel
theorem dX12_readAny_62 : decode cX12_readAny 62 = .ok (.iload_n 1, 1) := by decide +kernel
theorem dX12_readAny_63 : decode cX12_readAny 63 = .ok (.iconst 1, 1) := by decide +kernel
theorem dX12_readAny_64 : decode cX12_readAny 64 = .ok (.iadd, 1) := by decide +kernel
theorem dX12_readAny_65 : decode cX12_readAny 65 = .ok (.istore_n 1, 1) := by decide +kernel
theorem dX12_readAny_66 : decode cX12_readAny 66 = .ok (.aload_n 0, 1) := by decide +kernel
theorem dX12_readAny_67 : decode cX12_readAny 67 = .ok (.iload_n 3, 1) := by decide +kernel
theorem dX12_readAny_68 : decode cX12_readAny 68 = .ok (.ifCond .eq 8, 3) := by decide +kernel
theorem dX12_readAny_71 : decode cX12_readAny 71 = .ok (.bipush 9, 2) := by decide +kernel
theorem dX12_readAny_73 : decode cX12_readAny 73 = .ok (.goto 5, 3) := by decide +kernel
theorem dX12_readAny_76 : decode cX12_readAny 76 = .ok (.bipush 12, 2) := by decide +kernel
theorem dX12_readAny_78 : decode cX12_readAny 78 = .ok (.invokevirtual 238, 3) := by decide +kernel
theorem dX12_readAny_81 : decode cX12_readAny 81 = .ok (.aload_n 0, 1) := by decide +kernel
theorem dX12_readAny_82 : decode cX12_readAny 82 = .ok (.invokevirtual 213, 3) := by decide +kernel
theorem dX12_readAny_85 : decode cX12_readAny 85 = .ok (.goto (-76), 3) := by decide +kernel
theorem dX12_readAny_88 : decode cX12_readAny 88 = .ok (.aload_n 0, 1) := by decide +kernel
theorem dX12_readAny_89 : decode cX12_readAny 89 = .ok (.invokevirtual 241, 3) := by decide +kernel
theorem dX12_readAny_92 : decode cX12_readAny 92 = .ok (.iconst (-1), 1) := by decide +kernel
theorem dX12_readAny_93 : decode cX12_readAny 93 = .ok (.if_icmp .ne 5, 3) := by decide +kernel
theorem dX12_readAny_96 : decode cX12_readAny 96 = .ok (.iconst (-1), 1) := by decide +kernel
theorem dX12_readAny_97 : decode cX12_readAny 97 = .ok (.ireturn, 1) := by decide +kernel
theorem dX12_readAny_98 : decode cX12_readAny 98 = .ok (.aload_n 0, 1) := by decide +kernel
theorem dX12_readAny_99 : decode cX12_readAny 99 = .ok (.bipush 9, 2) := by decide +kernel
theorem dX12_readAny_101 : decode cX12_readAny 101 = .ok (.invokevirtual 244, 3) := by decide +kernel
theorem dX12_readAny_104 : decode cX12_readAny 104 = .ok (.iconst 0, 1) := by decide +kernel
theorem dX12_readAny_105 : decode cX12_readAny 105 = .ok (.istore_n 2, 1) := by decide +kernel
theorem dX12_readAny_106 : decode cX12_readAny 106 = .ok (.goto (-97), 3) := by decide +kernel
theorem dX12_readAny_109 : decode cX12_readAny 109 = .ok (.aload_n 0, 1) := by decide +kernel
theorem dX12_readAny_110 : decode cX12_readAny 110 = .ok (.iconst 5, 1) := by decide +kernel
theorem dX12_readAny_111 : decode cX12_readAny 111 = .ok (.invokevirtual 235, 3) := by decide +kernel
theorem dX12_readAny_114 : decode cX12_readAny 114 = .ok (.ifCond .eq 24, 3) := by decide +kernel
theorem dX12_readAny_117 : decode cX12_readAny 117 = .ok (.aload_n 0, 1) := by decide +kernel
theorem dX12_readAny_118 : decode cX12_readAny 118 = .ok (.bipush 10, 2) := by decide +kernel
theorem dX12_readAny_120 : decode cX12_readAny 120 = .ok (.invokevirtual 244, 3) := by decide +kernel
theorem dX12_readAny_123 : decode cX12_readAny 123 = .ok (.aload_n 0, 1) := by decide +kernel
theorem dX12_readAny_124 : decode cX12_readAny 124 = .ok (.bipush 10, 2) := by decide +kernel
theorem dX12_readAny_126 : decode cX12_readAny 126 = .ok (.invokevirtual 238, 3) := by decide +kernel
theorem dX12_readAny_129 : decode cX12_readAny 129 = .ok (.aload_n 0, 1) := by decide +kernel
theorem dX12_readAny_130 : decode cX12_readAny 130 = .ok (.invokevirtual 213, 3) := by decide +kernel
theorem dX12_readAny_133 : decode cX12_readAny 133 = .ok (.iconst 1, 1) := by decide +kernel
theorem dX12_readAny_134 : decode cX12_readAny 134 = .ok (.istore_n 2, 1) := by decide +kernel
theorem dX12_readAny_135 : decode cX12_readAny 135 = .ok (.goto (-126), 3) := by decide +kernel
theorem dX12_readAny_138 : decode cX12_readAny 138 = .ok (.aload_n 0, 1) := by decide +kernel
theorem dX12_readAny_139 : decode cX12_readAny 139 = .ok (.iconst 4, 1) := by decide +kernel
theorem dX12_readAny_140 : decode cX12_readAny 140 = .ok (.invokevirtual 235, 3) := by decide +kernel
theorem dX12_readAny_143 : decode cX12_readAny 143 = .ok (.ifCond .eq 30, 3) := by decide +kernel
theorem dX12_readAny_146 : decode cX12_readAny 146 = .ok (.aload_n 0, 1) := by decide +kernel
theorem dX12_readAny_147 : decode cX12_readAny 147 = .ok (.bipush 10, 2) := by decide +kernel
theorem dX12_readAny_149 : decode cX12_readAny 149 = .ok (.invokevirtual 244, 3) := by decide +kernel
theorem dX12_readAny_152 : decode cX12_readAny 152 = .ok (.aload_n 0, 1) := by decide +kernel
theorem dX12_readAny_153 : decode cX12_readAny 153 = .ok (.bipush 11, 2) := by decide +kernel
theorem dX12_readAny_155 : decode cX12_readAny 155 = .ok (.invokevirtual 244, 3) := by decide +kernel
theorem dX12_readAny_158 : decode cX12_readAny 158 = .ok (.aload_n 0, 1) := by decide +kernel
theorem dX12_readAny_159 : decode cX12_readAny 159 = .ok (.bipush 11, 2) := by decide +kernel
theorem dX12_readAny_161 : decode cX12_readAny 161 = .ok (.invokevirtual 238, 3) := by decide +kernel
theorem dX12_readAny_164 : decode cX12_readAny 164 = .ok (.aload_n 0, 1) := by decide +kernel
theorem dX12_readAny_165 : decode cX12_readAny 165 = .ok (.invokevirtual 213, 3) := by decide +kernel
theorem dX12_readAny_168 : decode cX12_readAny 168 = .ok (.iconst 1, 1) := by decide +kernel
theorem dX12_readAny_169 : decode cX12_readAny 169 = .ok (.istore_n 2, 1) := by decide +kernel
theorem dX12_readAny_170 : decode cX12_readAny 170 = .ok (.goto (-161), 3) := by decide +kernel
theorem dX12_readAny_173 : decode cX12_readAny 173 = .ok (.aload_n 0, 1) := by decide +kernel
theorem dX12_readAny_174 : decode cX12_readAny 174 = .ok (.bipush 10, 2) := by decide +kernel
theorem dX12_readAny_176 : decode cX12_readAny 176 = .ok (.invokevirtual 244, 3) := by decide +kernel
theorem dX12_readAny_179 : decode cX12_readAny 179 = .ok (.aload_n 0, 1) := by decide +kernel
theorem dX12_readAny_180 : decode cX12_readAny 180 = .ok (.bipush 11, 2) := by decide +kernel
theorem dX12_readAny_182 : decode cX12_readAny 182 = .ok (.invokevirtual 244, 3) := by decide +kernel
theorem dX12_readAny_185 : decode cX12_readAny 185 = .ok (.iload_n 1, 1) := by decide +kernel
theorem dX12_readAny_186 : decode cX12_readAny 186 = .ok (.ifCond .ne 5, 3) := by decide +kernel
theorem dX12_readAny_189 : decode cX12_readAny 189 = .ok (.iconst 0, 1) := by decide +kernel
theorem dX12_readAny_190 : decode cX12_readAny 190 = .ok (.ireturn, 1) := by decide +kernel
theorem dX12_readAny_191 : decode cX12_readAny 191 = .ok (.aload_n 0, 1) := by decide +kernel
theorem dX12_readAny_192 : decode cX12_readAny 192 = .ok (.bipush 41, 2) := by decide +kernel
theorem dX12_readAny_194 : decode cX12_readAny 194 = .ok (.invokevirtual 220, 3) := by decide +kernel
theorem dX12_readAny_197 : decode cX12_readAny 197 = .ok (.ifCond .ne 9, 3) := by decide +kernel
theorem dX12_readAny_200 : decode cX12_readAny 200 = .ok (.aload_n 0, 1) := by decide +kernel
theorem dX12_readAny_201 : decode cX12_readAny 201 = .ok (.iconst 1, 1) := by decide +kernel
theorem dX12_readAny_202 : decode cX12_readAny 202 = .ok (.invokevirtual 206, 3) := by decide +kernel
theorem dX12_readAny_205 : decode cX12_readAny 205 = .ok (.ireturn, 1) := by decide +kernel
theorem dX12_readAny_206 : decode cX12_readAny 206 = .ok (.aload_n 0, 1) := by decide +kernel
theorem dX12_readAny_207 : decode cX12_readAny 207 = .ok (.aload_n 0, 1) := by decide +kernel
theorem dX12_readAny_208 : decode cX12_readAny 208 = .ok (.getfield 229, 3) := by decide +kernel
theorem dX12_readAny_211 : decode cX12_readAny 211 = .ok (.iconst 1, 1) := by decide +kernel
theorem dX12_readAny_212 : decode cX12_readAny 212 = .ok (.isub, 1) := by decide +kernel
theorem dX12_readAny_213 : decode cX12_readAny 213 = .ok (.putfield 229, 3) := by decide +kernel
theorem dX12_readAny_216 : decode cX12_readAny 216 = .ok (.iload_n 1, 1) := by decide +kernel
theorem dX12_readAny_217 : decode cX12_readAny 217 = .ok (.iconst 1, 1) := by decide +kernel
theorem dX12_readAny_218 : decode cX12_readAny 218 = .ok (.isub, 1) := by decide +kernel
theorem dX12_readAny_219 : decode cX12_readAny 219 = .ok (.istore_n 1, 1) := by decide +kernel
theorem dX12_readAny_220 : decode cX12_readAny 220 = .ok (.aload_n 0, 1) := by decide +kernel
theorem dX12_readAny_221 : decode cX12_readAny 221 = .ok (.aload_n 0, 1) := by decide +kernel
theorem dX12_readAny_222 : decode cX12_readAny 222 = .ok (.getfield 232, 3) := by decide +kernel
theorem dX12_readAny_225 : decode cX12_readAny 225 = .ok (.iconst 1, 1) := by decide +kernel
theorem dX12_readAny_226 : decode cX12_readAny 226 = .ok (.isub, 1) := by decide +kernel
theorem dX12_readAny_227 : decode cX12_readAny 227 = .ok (.putfield 232, 3) := by decide +kernel
theorem dX12_readAny_230 : decode cX12_readAny 230 = .ok (.aload_n 0, 1) := by decide +kernel
theorem dX12_readAny_231 : decode cX12_readAny 231 = .ok (.bipush 9, 2) := by decide +kernel
theorem dX12_readAny_233 : decode cX12_readAny 233 = .ok (.invokevirtual 244, 3) := by decide +kernel
theorem dX12_readAny_236 : decode cX12_readAny 236 = .ok (.aload_n 0, 1) := by decide +kernel
theorem dX12_readAny_237 : decode cX12_readAny 237 = .ok (.invokevirtual 213, 3) := by decide +kernel
theorem dX12_readAny_240 : decode cX12_readAny 240 = .ok (.goto (-231), 3) := by decide +kernel
theorem dX12_isLineWord_0 : decode cX12_isLineWord 0 = .ok (.aload_n 0, 1) := by decide +kernel
theorem dX12_isLineWord_1 : decode cX12_isLineWord 1 = .ok (.iconst 0, 1) := by decide +kernel
theorem dX12_isLineWord_2 : decode cX12_isLineWord 2 = .ok (.invokevirtual 235, 3) := by decide +kernel
theorem dX12_isLineWord_5 : decode cX12_isLineWord 5 = .ok (.ifCond .ne 19, 3) := by decide +kernel
theorem dX12_isLineWord_8 : decode cX12_isLineWord 8 = .ok (.aload_n 0, 1) := by decide +kernel
theorem dX12_isLineWord_9 : decode cX12_isLineWord 9 = .ok (.iconst 1, 1) := by decide +kernel
theorem dX12_isLineWord_10 : decode cX12_isLineWord 10 = .ok (.invokevirtual 235, 3) := by decide +kernel
theorem dX12_isLineWord_13 : decode cX12_isLineWord 13 = .ok (.ifCond .ne 11, 3) := by decide +kernel
theorem dX12_isLineWord_16 : decode cX12_isLineWord 16 = .ok (.aload_n 0, 1) := by decide +kernel
theorem dX12_isLineWord_17 : decode cX12_isLineWord 17 = .ok (.iconst 2, 1) := by decide +kernel
theorem dX12_isLineWord_18 : decode cX12_isLineWord 18 = .ok (.invokevirtual 235, 3) := by decide +kernel
theorem dX12_isLineWord_21 : decode cX12_isLineWord 21 = .ok (.ifCond .eq 7, 3) := by decide +kernel
theorem dX12_isLineWord_24 : decode cX12_isLineWord 24 = .ok (.iconst 1, 1) := by decide +kernel
theorem dX12_isLineWord_25 : decode cX12_isLineWord 25 = .ok (.goto 4, 3) := by decide +kernel
theorem dX12_isLineWord_28 : decode cX12_isLineWord 28 = .ok (.iconst 0, 1) := by decide +kernel
theorem dX12_isLineWord_29 : decode cX12_isLineWord 29 = .ok (.ireturn, 1) := by decide +kernel
theorem dX12_readLaw_0 : decode cX12_readLaw 0 = .ok (.iconst 0, 1) := by decide +kernel
theorem dX12_readLaw_1 : decode cX12_readLaw 1 = .ok (.istore_n 1, 1) := by decide +kernel
theorem dX12_readLaw_2 : decode cX12_readLaw 2 = .ok (.aload_n 0, 1) := by decide +kernel
theorem dX12_readLaw_3 : decode cX12_readLaw 3 = .ok (.invokevirtual 247, 3) := by decide +kernel
theorem dX12_readLaw_6 : decode cX12_readLaw 6 = .ok (.ifCond .eq 122, 3) := by decide +kernel
theorem dX12_readLaw_9 : decode cX12_readLaw 9 = .ok (.iload_n 1, 1) := by decide +kernel
theorem dX12_readLaw_10 : decode cX12_readLaw 10 = .ok (.bipush 16, 2) := by decide +kernel
theorem dX12_readLaw_12 : decode cX12_readLaw 12 = .ok (.if_icmp .ne 9, 3) := by decide +kernel
theorem dX12_readLaw_15 : decode cX12_readLaw 15 = .ok (.aload_n 0, 1) := by decide +kernel
theorem dX12_readLaw_16 : decode cX12_readLaw 16 = .ok (.iconst 3, 1) := by decide +kernel
theorem dX12_readLaw_17 : decode cX12_readLaw 17 = .ok (.invokevirtual 206, 3) := by decide +kernel
theorem dX12_readLaw_20 : decode cX12_readLaw 20 = .ok (.ireturn, 1) := by decide +kernel
theorem dX12_readLaw_21 : decode cX12_readLaw 21 = .ok (.bipush 32, 2) := by decide +kernel
theorem dX12_readLaw_23 : decode cX12_readLaw 23 = .ok (.iload_n 1, 1) := by decide +kernel
theorem dX12_readLaw_24 : decode cX12_readLaw 24 = .ok (.iadd, 1) := by decide +kernel
theorem dX12_readLaw_25 : decode cX12_readLaw 25 = .ok (.istore_n 2, 1) := by decide +kernel
theorem dX12_readLaw_26 : decode cX12_readLaw 26 = .ok (.aload_n 0, 1) := by decide +kernel
theorem dX12_readLaw_27 : decode cX12_readLaw 27 = .ok (.getfield 37, 3) := by decide +kernel
theorem dX12_readLaw_30 : decode cX12_readLaw 30 = .ok (.iload_n 2, 1) := by decide +kernel
theorem dX12_readLaw_31 : decode cX12_readLaw 31 = .ok (.aload_n 0, 1) := by decide +kernel
theorem dX12_readLaw_32 : decode cX12_readLaw 32 = .ok (.getfield 179, 3) := by decide +kernel
theorem dX12_readLaw_35 : decode cX12_readLaw 35 = .ok (.iastore, 1) := by decide +kernel
theorem dX12_readLaw_36 : decode cX12_readLaw 36 = .ok (.aload_n 0, 1) := by decide +kernel
theorem dX12_readLaw_37 : decode cX12_readLaw 37 = .ok (.invokevirtual 213, 3) := by decide +kernel
theorem dX12_readLaw_40 : decode cX12_readLaw 40 = .ok (.aload_n 0, 1) := by decide +kernel
theorem dX12_readLaw_41 : decode cX12_readLaw 41 = .ok (.getfield 40, 3) := by decide +kernel
theorem dX12_readLaw_44 : decode cX12_readLaw 44 = .ok (.iload_n 2, 1) := by decide +kernel
theorem dX12_readLaw_45 : decode cX12_readLaw 45 = .ok (.aload_n 0, 1) := by decide +kernel
theorem dX12_readLaw_46 : decode cX12_readLaw 46 = .ok (.getfield 200, 3) := by decide +kernel
theorem dX12_readLaw_49 : decode cX12_readLaw 49 = .ok (.iastore, 1) := by decide +kernel
theorem dX12_readLaw_50 : decode cX12_readLaw 50 = .ok (.aload_n 0, 1) := by decide +kernel
theorem dX12_readLaw_51 : decode cX12_readLaw 51 = .ok (.invokevirtual 226, 3) := by decide +kernel
theorem dX12_readLaw_54 : decode cX12_readLaw 54 = .ok (.iconst (-1), 1) := by decide +kernel
theorem dX12_readLaw_55 : decode cX12_readLaw 55 = .ok (.if_icmp .ne 5, 3) := by decide +kernel
theorem dX12_readLaw_58 : decode cX12_readLaw 58 = .ok (.iconst (-1), 1) := by decide +kernel
theorem dX12_readLaw_59 : decode cX12_readLaw 59 = .ok (.ireturn, 1) := by decide +kernel
theorem dX12_readLaw_60 : decode cX12_readLaw 60 = .ok (.aload_n 0, 1) := by decide +kernel
theorem dX12_readLaw_61 : decode cX12_readLaw 61 = .ok (.getfield 43, 3) := by decide +kernel
theorem dX12_readLaw_64 : decode cX12_readLaw 64 = .ok (.iload_n 2, 1) := by decide +kernel
theorem dX12_readLaw_65 : decode cX12_readLaw 65 = .ok (.aload_n 0, 1) := by decide +kernel
theorem dX12_readLaw_66 : decode cX12_readLaw 66 = .ok (.getfield 200, 3) := by decide +kernel
theorem dX12_readLaw_69 : decode cX12_readLaw 69 = .ok (.iastore, 1) := by decide +kernel
theorem dX12_readLaw_70 : decode cX12_readLaw 70 = .ok (.aload_n 0, 1) := by decide +kernel
theorem dX12_readLaw_71 : decode cX12_readLaw 71 = .ok (.iconst 3, 1) := by decide +kernel
theorem dX12_readLaw_72 : decode cX12_readLaw 72 = .ok (.invokevirtual 235, 3) := by decide +kernel
theorem dX12_readLaw_75 : decode cX12_readLaw 75 = .ok (.ifCond .eq 17, 3) := by decide +kernel
theorem dX12_readLaw_78 : decode cX12_readLaw 78 = .ok (.aload_n 0, 1) := by decide +kernel
theorem dX12_readLaw_79 : decode cX12_readLaw 79 = .ok (.invokevirtual 213, 3) := by decide +kernel
theorem dX12_readLaw_82 : decode cX12_readLaw 82 = .ok (.aload_n 0, 1) := by decide +kernel
theorem dX12_readLaw_83 : decode cX12_readLaw 83 = .ok (.invokevirtual 251, 3) := by decide +kernel
theorem dX12_readLaw_86 : decode cX12_readLaw 86 = .ok (.iconst (-1), 1) := by decide +kernel
theorem dX12_readLaw_87 : decode cX12_readLaw 87 = .ok (.if_icmp .ne 5, 3) := by decide +kernel
theorem dX12_readLaw_90 : decode cX12_readLaw 90 = .ok (.iconst (-1), 1) := by decide +kernel
theorem dX12_readLaw_91 : decode cX12_readLaw 91 = .ok (.ireturn, 1) := by decide +kernel
theorem dX12_readLaw_92 : decode cX12_readLaw 92 = .ok (.aload_n 0, 1) := by decide +kernel
theorem dX12_readLaw_93 : decode cX12_readLaw 93 = .ok (.getfield 46, 3) := by decide +kernel
theorem dX12_readLaw_96 : decode cX12_readLaw 96 = .ok (.iload_n 2, 1) := by decide +kernel
theorem dX12_readLaw_97 : decode cX12_readLaw 97 = .ok (.aload_n 0, 1) := by decide +kernel
theorem dX12_readLaw_98 : decode cX12_readLaw 98 = .ok (.getfield 200, 3) := by decide +kernel
theorem dX12_readLaw_101 : decode cX12_readLaw 101 = .ok (.iastore, 1) := by decide +kernel
theorem dX12_readLaw_102 : decode cX12_readLaw 102 = .ok (.aload_n 0, 1) := by decide +kernel
theorem dX12_readLaw_103 : decode cX12_readLaw 103 = .ok (.bipush 59, 2) := by decide +kernel
theorem dX12_readLaw_105 : decode cX12_readLaw 105 = .ok (.invokevirtual 220, 3) := by decide +kernel
theorem dX12_readLaw_108 : decode cX12_readLaw 108 = .ok (.ifCond .ne 9, 3) := by decide +kernel
theorem dX12_readLaw_111 : decode cX12_readLaw 111 = .ok (.aload_n 0, 1) := by decide +kernel
theorem dX12_readLaw_112 : decode cX12_readLaw 112 = .ok (.iconst 1, 1) := by decide +kernel
theorem dX12_readLaw_113 : decode cX12_readLaw 113 = .ok (.invokevirtual 206, 3) := by decide +kernel
theorem dX12_readLaw_116 : decode cX12_readLaw 116 = .ok (.ireturn, 1) := by decide +kernel
theorem dX12_readLaw_117 : decode cX12_readLaw 117 = .ok (.aload_n 0, 1) := by decide +kernel
theorem dX12_readLaw_118 : decode cX12_readLaw 118 = .ok (.invokevirtual 213, 3) := by decide +kernel
theorem dX12_readLaw_121 : decode cX12_readLaw 121 = .ok (.iload_n 1, 1) := by decide +kernel
theorem dX12_readLaw_122 : decode cX12_readLaw 122 = .ok (.iconst 1, 1) := by decide +kernel
theorem dX12_readLaw_123 : decode cX12_readLaw 123 = .ok (.iadd, 1) := by decide +kernel
theorem dX12_readLaw_124 : decode cX12_readLaw 124 = .ok (.istore_n 1, 1) := by decide +kernel
theorem dX12_readLaw_125 : decode cX12_readLaw 125 = .ok (.goto (-123), 3) := by decide +kernel
theorem dX12_readLaw_128 : decode cX12_readLaw 128 = .ok (.aload_n 0, 1) := by decide +kernel
theorem dX12_readLaw_129 : decode cX12_readLaw 129 = .ok (.getfield 176, 3) := by decide +kernel
theorem dX12_readLaw_132 : decode cX12_readLaw 132 = .ok (.ifCond .ne 7, 3) := by decide +kernel
theorem dX12_readLaw_135 : decode cX12_readLaw 135 = .ok (.iload_n 1, 1) := by decide +kernel
theorem dX12_readLaw_136 : decode cX12_readLaw 136 = .ok (.goto 8, 3) := by decide +kernel
theorem dX12_readLaw_139 : decode cX12_readLaw 139 = .ok (.aload_n 0, 1) := by decide +kernel
theorem dX12_readLaw_140 : decode cX12_readLaw 140 = .ok (.iconst 1, 1) := by decide +kernel
theorem dX12_readLaw_141 : decode cX12_readLaw 141 = .ok (.invokevirtual 206, 3) := by decide +kernel
theorem dX12_readLaw_144 : decode cX12_readLaw 144 = .ok (.ireturn, 1) := by decide +kernel
theorem dX12_takesLaw_0 : decode cX12_takesLaw 0 = .ok (.iconst 0, 1) := by decide +kernel
theorem dX12_takesLaw_1 : decode cX12_takesLaw 1 = .ok (.istore_n 2, 1) := by decide +kernel
theorem dX12_takesLaw_2 : decode cX12_takesLaw 2 = .ok (.iload_n 2, 1) := by decide +kernel
theorem dX12_takesLaw_3 : decode cX12_takesLaw 3 = .ok (.iload_n 1, 1) := by decide +kernel
theorem dX12_takesLaw_4 : decode cX12_takesLaw 4 = .ok (.if_icmp .ge 101, 3) := by decide +kernel
theorem dX12_takesLaw_7 : decode cX12_takesLaw 7 = .ok (.aload_n 0, 1) := by decide +kernel
theorem dX12_takesLaw_8 : decode cX12_takesLaw 8 = .ok (.getfield 37, 3) := by decide +kernel
theorem dX12_takesLaw_11 : decode cX12_takesLaw 11 = .ok (.bipush 16, 2) := by decide +kernel
theorem dX12_takesLaw_13 : decode cX12_takesLaw 13 = .ok (.aload_n 0, 1) := by decide +kernel
theorem dX12_takesLaw_14 : decode cX12_takesLaw 14 = .ok (.getfield 254, 3) := by decide +kernel
theorem dX12_takesLaw_17 : decode cX12_takesLaw 17 = .ok (.imul, 1) := by decide +kernel
theorem dX12_takesLaw_18 : decode cX12_takesLaw 18 = .ok (.iload_n 2, 1) := by decide +kernel
theorem dX12_takesLaw_19 : decode cX12_takesLaw 19 = .ok (.iadd, 1) := by decide +kernel
theorem dX12_takesLaw_20 : decode cX12_takesLaw 20 = .ok (.aload_n 0, 1) := by decide +kernel
theorem dX12_takesLaw_21 : decode cX12_takesLaw 21 = .ok (.getfield 37, 3) := by decide +kernel
theorem dX12_takesLaw_24 : decode cX12_takesLaw 24 = .ok (.bipush 32, 2) := by decide +kernel
theorem dX12_takesLaw_26 : decode cX12_takesLaw 26 = .ok (.iload_n 2, 1) := by decide +kernel
theorem dX12_takesLaw_27 : decode cX12_takesLaw 27 = .ok (.iadd, 1) := by decide +kernel
theorem dX12_takesLaw_28 : decode cX12_takesLaw 28 = .ok (.iaload, 1) := by decide +kernel
theorem dX12_takesLaw_29 : decode cX12_takesLaw 29 = .ok (.iastore, 1) := by decide +kernel
theorem dX12_takesLaw_30 : decode cX12_takesLaw 30 = .ok (.aload_n 0, 1) := by decide +kernel
theorem dX12_takesLaw_31 : decode cX12_takesLaw 31 = .ok (.getfield 40, 3) := by decide +kernel
theorem dX12_takesLaw_34 : decode cX12_takesLaw 34 = .ok (.bipush 16, 2) := by decide +kernel
theorem dX12_takesLaw_36 : decode cX12_takesLaw 36 = .ok (.aload_n 0, 1) := by decide +kernel
theorem dX12_takesLaw_37 : decode cX12_takesLaw 37 = .ok (.getfield 254, 3) := by decide +kernel
theorem dX12_takesLaw_40 : decode cX12_takesLaw 40 = .ok (.imul, 1) := by decide +kernel
theorem dX12_takesLaw_41 : decode cX12_takesLaw 41 = .ok (.iload_n 2, 1) := by decide +kernel
theorem dX12_takesLaw_42 : decode cX12_takesLaw 42 = .ok (.iadd, 1) := by decide +kernel
theorem dX12_takesLaw_43 : decode cX12_takesLaw 43 = .ok (.aload_n 0, 1) := by decide +kernel
theorem dX12_takesLaw_44 : decode cX12_takesLaw 44 = .ok (.getfield 40, 3) := by decide +kernel
theorem dX12_takesLaw_47 : decode cX12_takesLaw 47 = .ok (.bipush 32, 2) := by decide +kernel
theorem dX12_takesLaw_49 : decode cX12_takesLaw 49 = .ok (.iload_n 2, 1) := by decide +kernel
theorem dX12_takesLaw_50 : decode cX12_takesLaw 50 = .ok (.iadd, 1) := by decide +kernel
theorem dX12_takesLaw_51 : decode cX12_takesLaw 51 = .ok (.iaload, 1) := by decide +kernel
theorem dX12_takesLaw_52 : decode cX12_takesLaw 52 = .ok (.iastore, 1) := by decide +kernel
theorem dX12_takesLaw_53 : decode cX12_takesLaw 53 = .ok (.aload_n 0, 1) := by decide +kernel
theorem dX12_takesLaw_54 : decode cX12_takesLaw 54 = .ok (.getfield 43, 3) := by decide +kernel
theorem dX12_takesLaw_57 : decode cX12_takesLaw 57 = .ok (.bipush 16, 2) := by decide +kernel
theorem dX12_takesLaw_59 : decode cX12_takesLaw 59 = .ok (.aload_n 0, 1) := by decide +kernel
theorem dX12_takesLaw_60 : decode cX12_takesLaw 60 = .ok (.getfield 254, 3) := by decide +kernel
theorem dX12_takesLaw_63 : decode cX12_takesLaw 63 = .ok (.imul, 1) := by decide +kernel
theorem dX12_takesLaw_64 : decode cX12_takesLaw 64 = .ok (.iload_n 2, 1) := by decide +kernel
theorem dX12_takesLaw_65 : decode cX12_takesLaw 65 = .ok (.iadd, 1) := by decide +kernel
theorem dX12_takesLaw_66 : decode cX12_takesLaw 66 = .ok (.aload_n 0, 1) := by decide +kernel
theorem dX12_takesLaw_67 : decode cX12_takesLaw 67 = .ok (.getfield 43, 3) := by decide +kernel
theorem dX12_takesLaw_70 : decode cX12_takesLaw 70 = .ok (.bipush 32, 2) := by decide +kernel
theorem dX12_takesLaw_72 : decode cX12_takesLaw 72 = .ok (.iload_n 2, 1) := by decide +kernel
theorem dX12_takesLaw_73 : decode cX12_takesLaw 73 = .ok (.iadd, 1) := by decide +kernel
theorem dX12_takesLaw_74 : decode cX12_takesLaw 74 = .ok (.iaload, 1) := by decide +kernel
theorem dX12_takesLaw_75 : decode cX12_takesLaw 75 = .ok (.iastore, 1) := by decide +kernel
theorem dX12_takesLaw_76 : decode cX12_takesLaw 76 = .ok (.aload_n 0, 1) := by decide +kernel
theorem dX12_takesLaw_77 : decode cX12_takesLaw 77 = .ok (.getfield 46, 3) := by decide +kernel
theorem dX12_takesLaw_80 : decode cX12_takesLaw 80 = .ok (.bipush 16, 2) := by decide +kernel
theorem dX12_takesLaw_82 : decode cX12_takesLaw 82 = .ok (.aload_n 0, 1) := by decide +kernel
theorem dX12_takesLaw_83 : decode cX12_takesLaw 83 = .ok (.getfield 254, 3) := by decide +kernel
theorem dX12_takesLaw_86 : decode cX12_takesLaw 86 = .ok (.imul, 1) := by decide +kernel
theorem dX12_takesLaw_87 : decode cX12_takesLaw 87 = .ok (.iload_n 2, 1) := by decide +kernel
theorem dX12_takesLaw_88 : decode cX12_takesLaw 88 = .ok (.iadd, 1) := by decide +kernel
theorem dX12_takesLaw_89 : decode cX12_takesLaw 89 = .ok (.aload_n 0, 1) := by decide +kernel
theorem dX12_takesLaw_90 : decode cX12_takesLaw 90 = .ok (.getfield 46, 3) := by decide +kernel
theorem dX12_takesLaw_93 : decode cX12_takesLaw 93 = .ok (.bipush 32, 2) := by decide +kernel
theorem dX12_takesLaw_95 : decode cX12_takesLaw 95 = .ok (.iload_n 2, 1) := by decide +kernel
theorem dX12_takesLaw_96 : decode cX12_takesLaw 96 = .ok (.iadd, 1) := by decide +kernel
theorem dX12_takesLaw_97 : decode cX12_takesLaw 97 = .ok (.iaload, 1) := by decide +kernel
theorem dX12_takesLaw_98 : decode cX12_takesLaw 98 = .ok (.iastore, 1) := by decide +kernel
theorem dX12_takesLaw_99 : decode cX12_takesLaw 99 = .ok (.iinc 2 1, 3) := by decide +kernel
theorem dX12_takesLaw_102 : decode cX12_takesLaw 102 = .ok (.goto (-100), 3) := by decide +kernel
theorem dX12_takesLaw_105 : decode cX12_takesLaw 105 = .ok (.iconst 0, 1) := by decide +kernel
theorem dX12_takesLaw_106 : decode cX12_takesLaw 106 = .ok (.istore_n 2, 1) := by decide +kernel
theorem dX12_takesLaw_107 : decode cX12_takesLaw 107 = .ok (.iload_n 2, 1) := by decide +kernel
theorem dX12_takesLaw_108 : decode cX12_takesLaw 108 = .ok (.aload_n 0, 1) := by decide +kernel
theorem dX12_takesLaw_109 : decode cX12_takesLaw 109 = .ok (.getfield 200, 3) := by decide +kernel
theorem dX12_takesLaw_112 : decode cX12_takesLaw 112 = .ok (.if_icmp .ge 59, 3) := by decide +kernel
theorem dX12_takesLaw_115 : decode cX12_takesLaw 115 = .ok (.aload_n 0, 1) := by decide +kernel
theorem dX12_takesLaw_116 : decode cX12_takesLaw 116 = .ok (.getfield 49, 3) := by decide +kernel
theorem dX12_takesLaw_119 : decode cX12_takesLaw 119 = .ok (.sipush 400, 3) := by decide +kernel
theorem dX12_takesLaw_122 : decode cX12_takesLaw 122 = .ok (.aload_n 0, 1) := by decide +kernel
theorem dX12_takesLaw_123 : decode cX12_takesLaw 123 = .ok (.getfield 254, 3) := by decide +kernel
theorem dX12_takesLaw_126 : decode cX12_takesLaw 126 = .ok (.imul, 1) := by decide +kernel
theorem dX12_takesLaw_127 : decode cX12_takesLaw 127 = .ok (.iload_n 2, 1) := by decide +kernel
theorem dX12_takesLaw_128 : decode cX12_takesLaw 128 = .ok (.iadd, 1) := by decide +kernel
theorem dX12_takesLaw_129 : decode cX12_takesLaw 129 = .ok (.aload_n 0, 1) := by decide +kernel
theorem dX12_takesLaw_130 : decode cX12_takesLaw 130 = .ok (.getfield 49, 3) := by decide +kernel
theorem dX12_takesLaw_133 : decode cX12_takesLaw 133 = .ok (.sipush 800, 3) := by decide +kernel
theorem dX12_takesLaw_136 : decode cX12_takesLaw 136 = .ok (.iload_n 2, 1) := by decide +kernel
theorem dX12_takesLaw_137 : decode cX12_takesLaw 137 = .ok (.iadd, 1) := by decide +kernel
theorem dX12_takesLaw_138 : decode cX12_takesLaw 138 = .ok (.iaload, 1) := by decide +kernel
theorem dX12_takesLaw_139 : decode cX12_takesLaw 139 = .ok (.iastore, 1) := by decide +kernel
theorem dX12_takesLaw_140 : decode cX12_takesLaw 140 = .ok (.aload_n 0, 1) := by decide +kernel
theorem dX12_takesLaw_141 : decode cX12_takesLaw 141 = .ok (.getfield 52, 3) := by decide +kernel
theorem dX12_takesLaw_144 : decode cX12_takesLaw 144 = .ok (.sipush 400, 3) := by decide +kernel
theorem dX12_takesLaw_147 : decode cX12_takesLaw 147 = .ok (.aload_n 0, 1) := by decide +kernel
theorem dX12_takesLaw_148 : decode cX12_takesLaw 148 = .ok (.getfield 254, 3) := by decide +kernel
theorem dX12_takesLaw_151 : decode cX12_takesLaw 151 = .ok (.imul, 1) := by decide +kernel
theorem dX12_takesLaw_152 : decode cX12_takesLaw 152 = .ok (.iload_n 2, 1) := by decide +kernel
theorem dX12_takesLaw_153 : decode cX12_takesLaw 153 = .ok (.iadd, 1) := by decide +kernel
theorem dX12_takesLaw_154 : decode cX12_takesLaw 154 = .ok (.aload_n 0, 1) := by decide +kernel
theorem dX12_takesLaw_155 : decode cX12_takesLaw 155 = .ok (.getfield 52, 3) := by decide +kernel
theorem dX12_takesLaw_158 : decode cX12_takesLaw 158 = .ok (.sipush 800, 3) := by decide +kernel
theorem dX12_takesLaw_161 : decode cX12_takesLaw 161 = .ok (.iload_n 2, 1) := by decide +kernel
theorem dX12_takesLaw_162 : decode cX12_takesLaw 162 = .ok (.iadd, 1) := by decide +kernel
theorem dX12_takesLaw_163 : decode cX12_takesLaw 163 = .ok (.iaload, 1) := by decide +kernel
theorem dX12_takesLaw_164 : decode cX12_takesLaw 164 = .ok (.iastore, 1) := by decide +kernel
theorem dX12_takesLaw_165 : decode cX12_takesLaw 165 = .ok (.iinc 2 1, 3) := by decide +kernel
theorem dX12_takesLaw_168 : decode cX12_takesLaw 168 = .ok (.goto (-61), 3) := by decide +kernel
theorem dX12_takesLaw_171 : decode cX12_takesLaw 171 = .ok (.aload_n 0, 1) := by decide +kernel
theorem dX12_takesLaw_172 : decode cX12_takesLaw 172 = .ok (.getfield 34, 3) := by decide +kernel
theorem dX12_takesLaw_175 : decode cX12_takesLaw 175 = .ok (.aload_n 0, 1) := by decide +kernel
theorem dX12_takesLaw_176 : decode cX12_takesLaw 176 = .ok (.getfield 254, 3) := by decide +kernel
theorem dX12_takesLaw_179 : decode cX12_takesLaw 179 = .ok (.iload_n 1, 1) := by decide +kernel
theorem dX12_takesLaw_180 : decode cX12_takesLaw 180 = .ok (.iastore, 1) := by decide +kernel
theorem dX12_takesLaw_181 : decode cX12_takesLaw 181 = .ok (.return_, 1) := by decide +kernel
theorem dX12_readNumber_0 : decode cX12_readNumber 0 = .ok (.aload_n 0, 1) := by decide +kernel
theorem dX12_readNumber_1 : decode cX12_readNumber 1 = .ok (.getfield 176, 3) := by decide +kernel
theorem dX12_readNumber_4 : decode cX12_readNumber 4 = .ok (.iconst 3, 1) := by decide +kernel
theorem dX12_readNumber_5 : decode cX12_readNumber 5 = .ok (.if_icmp .eq 9, 3) := by decide +kernel
theorem dX12_readNumber_8 : decode cX12_readNumber 8 = .ok (.aload_n 0, 1) := by decide +kernel
theorem dX12_readNumber_9 : decode cX12_readNumber 9 = .ok (.iconst 1, 1) := by decide +kernel
theorem dX12_readNumber_10 : decode cX12_readNumber 10 = .ok (.invokevirtual 206, 3) := by decide +kernel
theorem dX12_readNumber_13 : decode cX12_readNumber 13 = .ok (.ireturn, 1) := by decide +kernel
theorem dX12_readNumber_14 : decode cX12_readNumber 14 = .ok (.aload_n 0, 1) := by decide +kernel
theorem dX12_readNumber_15 : decode cX12_readNumber 15 = .ok (.aload_n 0, 1) := by decide +kernel
theorem dX12_readNumber_16 : decode cX12_readNumber 16 = .ok (.getfield 179, 3) := by decide +kernel
theorem dX12_readNumber_19 : decode cX12_readNumber 19 = .ok (.iload_n 1, 1) := by decide +kernel
theorem dX12_readNumber_20 : decode cX12_readNumber 20 = .ok (.iload_n 2, 1) := by decide +kernel
theorem dX12_readNumber_21 : decode cX12_readNumber 21 = .ok (.invokevirtual 142, 3) := by decide +kernel
theorem dX12_readNumber_24 : decode cX12_readNumber 24 = .ok (.ifCond .ne 9, 3) := by decide +kernel
theorem dX12_readNumber_27 : decode cX12_readNumber 27 = .ok (.aload_n 0, 1) := by decide +kernel
theorem dX12_readNumber_28 : decode cX12_readNumber 28 = .ok (.iconst 2, 1) := by decide +kernel
theorem dX12_readNumber_29 : decode cX12_readNumber 29 = .ok (.invokevirtual 206, 3) := by decide +kernel
theorem dX12_readNumber_32 : decode cX12_readNumber 32 = .ok (.ireturn, 1) := by decide +kernel
theorem dX12_readNumber_33 : decode cX12_readNumber 33 = .ok (.aload_n 0, 1) := by decide +kernel
theorem dX12_readNumber_34 : decode cX12_readNumber 34 = .ok (.getfield 179, 3) := by decide +kernel
theorem dX12_readNumber_37 : decode cX12_readNumber 37 = .ok (.istore_n 3, 1) := by decide +kernel
theorem dX12_readNumber_38 : decode cX12_readNumber 38 = .ok (.aload_n 0, 1) := by decide +kernel
theorem dX12_readNumber_39 : decode cX12_readNumber 39 = .ok (.invokevirtual 213, 3) := by decide +kernel
theorem dX12_readNumber_42 : decode cX12_readNumber 42 = .ok (.iload_n 3, 1) := by decide +kernel
theorem dX12_readNumber_43 : decode cX12_readNumber 43 = .ok (.ireturn, 1) := by decide +kernel
theorem dX12_readWord_0 : decode cX12_readWord 0 = .ok (.aload_n 0, 1) := by decide +kernel
theorem dX12_readWord_1 : decode cX12_readWord 1 = .ok (.iload_n 1, 1) := by decide +kernel
theorem dX12_readWord_2 : decode cX12_readWord 2 = .ok (.invokevirtual 235, 3) := by decide +kernel
theorem dX12_readWord_5 : decode cX12_readWord 5 = .ok (.ifCond .ne 9, 3) := by decide +kernel
theorem dX12_readWord_8 : decode cX12_readWord 8 = .ok (.aload_n 0, 1) := by decide +kernel
theorem dX12_readWord_9 : decode cX12_readWord 9 = .ok (.iconst 1, 1) := by decide +kernel
theorem dX12_readWord_10 : decode cX12_readWord 10 = .ok (.invokevirtual 206, 3) := by decide +kernel
theorem dX12_readWord_13 : decode cX12_readWord 13 = .ok (.ireturn, 1) := by decide +kernel
theorem dX12_readWord_14 : decode cX12_readWord 14 = .ok (.aload_n 0, 1) := by decide +kernel
theorem dX12_readWord_15 : decode cX12_readWord 15 = .ok (.invokevirtual 213, 3) := by decide +kernel
theorem dX12_readWord_18 : decode cX12_readWord 18 = .ok (.iconst 0, 1) := by decide +kernel
theorem dX12_readWord_19 : decode cX12_readWord 19 = .ok (.ireturn, 1) := by decide +kernel
theorem dX12_readMark_0 : decode cX12_readMark 0 = .ok (.aload_n 0, 1) := by decide +kernel
theorem dX12_readMark_1 : decode cX12_readMark 1 = .ok (.iload_n 1, 1) := by decide +kernel
theorem dX12_readMark_2 : decode cX12_readMark 2 = .ok (.invokevirtual 220, 3) := by decide +kernel
theorem dX12_readMark_5 : decode cX12_readMark 5 = .ok (.ifCond .ne 9, 3) := by decide +kernel
theorem dX12_readMark_8 : decode cX12_readMark 8 = .ok (.aload_n 0, 1) := by decide +kernel
theorem dX12_readMark_9 : decode cX12_readMark 9 = .ok (.iconst 1, 1) := by decide +kernel
theorem dX12_readMark_10 : decode cX12_readMark 10 = .ok (.invokevirtual 206, 3) := by decide +kernel
theorem dX12_readMark_13 : decode cX12_readMark 13 = .ok (.ireturn, 1) := by decide +kernel
theorem dX12_readMark_14 : decode cX12_readMark 14 = .ok (.aload_n 0, 1) := by decide +kernel
theorem dX12_readMark_15 : decode cX12_readMark 15 = .ok (.invokevirtual 213, 3) := by decide +kernel
theorem dX12_readMark_18 : decode cX12_readMark 18 = .ok (.iconst 0, 1) := by decide +kernel
theorem dX12_readMark_19 : decode cX12_readMark 19 = .ok (.ireturn, 1) := by decide +kernel
theorem dX12_readTold_0 : decode cX12_readTold 0 = .ok (.aload_n 0, 1) := by decide +kernel
theorem dX12_readTold_1 : decode cX12_readTold 1 = .ok (.iload_n 1, 1) := by decide +kernel
theorem dX12_readTold_2 : decode cX12_readTold 2 = .ok (.invokevirtual 257, 3) := by decide +kernel
theorem dX12_readTold_5 : decode cX12_readTold 5 = .ok (.iconst (-1), 1) := by decide +kernel
theorem dX12_readTold_6 : decode cX12_readTold 6 = .ok (.if_icmp .ne 7, 3) := by decide +kernel
theorem dX12_readTold_9 : decode cX12_readTold 9 = .ok (.iconst (-1), 1) := by decide +kernel
theorem dX12_readTold_10 : decode cX12_readTold 10 = .ok (.goto 9, 3) := by decide +kernel
theorem dX12_readTold_13 : decode cX12_readTold 13 = .ok (.aload_n 0, 1) := by decide +kernel
theorem dX12_readTold_14 : decode cX12_readTold 14 = .ok (.iload_n 2, 1) := by decide +kernel
theorem dX12_readTold_15 : decode cX12_readTold 15 = .ok (.iload_n 3, 1) := by decide +kernel
theorem dX12_readTold_16 : decode cX12_readTold 16 = .ok (.invokevirtual 260, 3) := by decide +kernel
theorem dX12_readTold_19 : decode cX12_readTold 19 = .ok (.ireturn, 1) := by decide +kernel
theorem dX12_readOther_0 : decode cX12_readOther 0 = .ok (.aload_n 0, 1) := by decide +kernel
theorem dX12_readOther_1 : decode cX12_readOther 1 = .ok (.getfield 176, 3) := by decide +kernel
theorem dX12_readOther_4 : decode cX12_readOther 4 = .ok (.iconst 3, 1) := by decide +kernel
theorem dX12_readOther_5 : decode cX12_readOther 5 = .ok (.if_icmp .eq 9, 3) := by decide +kernel
theorem dX12_readOther_8 : decode cX12_readOther 8 = .ok (.aload_n 0, 1) := by decide +kernel
theorem dX12_readOther_9 : decode cX12_readOther 9 = .ok (.iconst 1, 1) := by decide +kernel
theorem dX12_readOther_10 : decode cX12_readOther 10 = .ok (.invokevirtual 206, 3) := by decide +kernel
theorem dX12_readOther_13 : decode cX12_readOther 13 = .ok (.ireturn, 1) := by decide +kernel
theorem dX12_readOther_14 : decode cX12_readOther 14 = .ok (.aload_n 0, 1) := by decide +kernel
theorem dX12_readOther_15 : decode cX12_readOther 15 = .ok (.getfield 179, 3) := by decide +kernel
theorem dX12_readOther_18 : decode cX12_readOther 18 = .ok (.bipush 8, 2) := by decide +kernel
theorem dX12_readOther_20 : decode cX12_readOther 20 = .ok (.if_icmp .ge 16, 3) := by decide +kernel
theorem dX12_readOther_23 : decode cX12_readOther 23 = .ok (.aload_n 0, 1) := by decide +kernel
theorem dX12_readOther_24 : decode cX12_readOther 24 = .ok (.getfield 179, 3) := by decide +kernel
theorem dX12_readOther_27 : decode cX12_readOther 27 = .ok (.aload_n 0, 1) := by decide +kernel
theorem dX12_readOther_28 : decode cX12_readOther 28 = .ok (.getfield 62, 3) := by decide +kernel
theorem dX12_readOther_31 : decode cX12_readOther 31 = .ok (.iload_n 1, 1) := by decide +kernel
theorem dX12_readOther_32 : decode cX12_readOther 32 = .ok (.iaload, 1) := by decide +kernel
theorem dX12_readOther_33 : decode cX12_readOther 33 = .ok (.if_icmp .ne 9, 3) := by decide +kernel
theorem dX12_readOther_36 : decode cX12_readOther 36 = .ok (.aload_n 0, 1) := by decide +kernel
theorem dX12_readOther_37 : decode cX12_readOther 37 = .ok (.iconst 2, 1) := by decide +kernel
theorem dX12_readOther_38 : decode cX12_readOther 38 = .ok (.invokevirtual 206, 3) := by decide +kernel
theorem dX12_readOther_41 : decode cX12_readOther 41 = .ok (.ireturn, 1) := by decide +kernel
theorem dX12_readOther_42 : decode cX12_readOther 42 = .ok (.aload_n 0, 1) := by decide +kernel
theorem dX12_readOther_43 : decode cX12_readOther 43 = .ok (.getfield 62, 3) := by decide +kernel
theorem dX12_readOther_46 : decode cX12_readOther 46 = .ok (.iload_n 1, 1) := by decide +kernel
theorem dX12_readOther_47 : decode cX12_readOther 47 = .ok (.iconst 1, 1) := by decide +kernel
theorem dX12_readOther_48 : decode cX12_readOther 48 = .ok (.iadd, 1) := by decide +kernel
theorem dX12_readOther_49 : decode cX12_readOther 49 = .ok (.aload_n 0, 1) := by decide +kernel
theorem dX12_readOther_50 : decode cX12_readOther 50 = .ok (.getfield 62, 3) := by decide +kernel
theorem dX12_readOther_53 : decode cX12_readOther 53 = .ok (.iload_n 1, 1) := by decide +kernel
theorem dX12_readOther_54 : decode cX12_readOther 54 = .ok (.iconst 1, 1) := by decide +kernel
theorem dX12_readOther_55 : decode cX12_readOther 55 = .ok (.iadd, 1) := by decide +kernel
theorem dX12_readOther_56 : decode cX12_readOther 56 = .ok (.iaload, 1) := by decide +kernel
theorem dX12_readOther_57 : decode cX12_readOther 57 = .ok (.iconst 1, 1) := by decide +kernel
theorem dX12_readOther_58 : decode cX12_readOther 58 = .ok (.aload_n 0, 1) := by decide +kernel
theorem dX12_readOther_59 : decode cX12_readOther 59 = .ok (.getfield 179, 3) := by decide +kernel
theorem dX12_readOther_62 : decode cX12_readOther 62 = .ok (.ishl, 1) := by decide +kernel
theorem dX12_readOther_63 : decode cX12_readOther 63 = .ok (.ior, 1) := by decide +kernel
theorem dX12_readOther_64 : decode cX12_readOther 64 = .ok (.iastore, 1) := by decide +kernel
theorem dX12_readOther_65 : decode cX12_readOther 65 = .ok (.aload_n 0, 1) := by decide +kernel
theorem dX12_readOther_66 : decode cX12_readOther 66 = .ok (.invokevirtual 213, 3) := by decide +kernel
theorem dX12_readOther_69 : decode cX12_readOther 69 = .ok (.iconst 0, 1) := by decide +kernel
theorem dX12_readOther_70 : decode cX12_readOther 70 = .ok (.ireturn, 1) := by decide +kernel
theorem dX12_readReason_0 : decode cX12_readReason 0 = .ok (.aload_n 0, 1) := by decide +kernel
theorem dX12_readReason_1 : decode cX12_readReason 1 = .ok (.getfield 62, 3) := by decide +kernel
theorem dX12_readReason_4 : decode cX12_readReason 4 = .ok (.iload_n 1, 1) := by decide +kernel
theorem dX12_readReason_5 : decode cX12_readReason 5 = .ok (.iconst 1, 1) := by decide +kernel
theorem dX12_readReason_6 : decode cX12_readReason 6 = .ok (.iadd, 1) := by decide +kernel
theorem dX12_readReason_7 : decode cX12_readReason 7 = .ok (.iconst 0, 1) := by decide +kernel
theorem dX12_readReason_8 : decode cX12_readReason 8 = .ok (.iastore, 1) := by decide +kernel
theorem dX12_readReason_9 : decode cX12_readReason 9 = .ok (.aload_n 0, 1) := by decide +kernel
theorem dX12_readReason_10 : decode cX12_readReason 10 = .ok (.getfield 62, 3) := by decide +kernel
theorem dX12_readReason_13 : decode cX12_readReason 13 = .ok (.iload_n 1, 1) := by decide +kernel
theorem dX12_readReason_14 : decode cX12_readReason 14 = .ok (.iconst 2, 1) := by decide +kernel
theorem dX12_readReason_15 : decode cX12_readReason 15 = .ok (.iadd, 1) := by decide +kernel
theorem dX12_readReason_16 : decode cX12_readReason 16 = .ok (.iconst 0, 1) := by decide +kernel
theorem dX12_readReason_17 : decode cX12_readReason 17 = .ok (.iastore, 1) := by decide +kernel
theorem dX12_readReason_18 : decode cX12_readReason 18 = .ok (.aload_n 0, 1) := by decide +kernel
theorem dX12_readReason_19 : decode cX12_readReason 19 = .ok (.bipush 17, 2) := by decide +kernel
theorem dX12_readReason_21 : decode cX12_readReason 21 = .ok (.invokevirtual 235, 3) := by decide +kernel
theorem dX12_readReason_24 : decode cX12_readReason 24 = .ok (.ifCond .eq 27, 3) := by decide +kernel
theorem dX12_readReason_27 : decode cX12_readReason 27 = .ok (.aload_n 0, 1) := by decide +kernel
theorem dX12_readReason_28 : decode cX12_readReason 28 = .ok (.invokevirtual 213, 3) := by decide +kernel
theorem dX12_readReason_31 : decode cX12_readReason 31 = .ok (.aload_n 0, 1) := by decide +kernel
theorem dX12_readReason_32 : decode cX12_readReason 32 = .ok (.iload_n 1, 1) := by decide +kernel
theorem dX12_readReason_33 : decode cX12_readReason 33 = .ok (.invokevirtual 263, 3) := by decide +kernel
theorem dX12_readReason_36 : decode cX12_readReason 36 = .ok (.iconst (-1), 1) := by decide +kernel
theorem dX12_readReason_37 : decode cX12_readReason 37 = .ok (.if_icmp .ne 7, 3) := by decide +kernel
theorem dX12_readReason_40 : decode cX12_readReason 40 = .ok (.iconst (-1), 1) := by decide +kernel
theorem dX12_readReason_41 : decode cX12_readReason 41 = .ok (.goto 9, 3) := by decide +kernel
theorem dX12_readReason_44 : decode cX12_readReason 44 = .ok (.aload_n 0, 1) := by decide +kernel
theorem dX12_readReason_45 : decode cX12_readReason 45 = .ok (.bipush 59, 2) := by decide +kernel
theorem dX12_readReason_47 : decode cX12_readReason 47 = .ok (.invokevirtual 266, 3) := by decide +kernel
theorem dX12_readReason_50 : decode cX12_readReason 50 = .ok (.ireturn, 1) := by decide +kernel
theorem dX12_readReason_51 : decode cX12_readReason 51 = .ok (.aload_n 0, 1) := by decide +kernel
theorem dX12_readReason_52 : decode cX12_readReason 52 = .ok (.bipush 15, 2) := by decide +kernel
theorem dX12_readReason_54 : decode cX12_readReason 54 = .ok (.invokevirtual 235, 3) := by decide +kernel
theorem dX12_readReason_57 : decode cX12_readReason 57 = .ok (.ifCond .ne 9, 3) := by decide +kernel
theorem dX12_readReason_60 : decode cX12_readReason 60 = .ok (.aload_n 0, 1) := by decide +kernel
theorem dX12_readReason_61 : decode cX12_readReason 61 = .ok (.iconst 1, 1) := by decide +kernel
theorem dX12_readReason_62 : decode cX12_readReason 62 = .ok (.invokevirtual 206, 3) := by decide +kernel
theorem dX12_readReason_65 : decode cX12_readReason 65 = .ok (.ireturn, 1) := by decide +kernel
theorem dX12_readReason_66 : decode cX12_readReason 66 = .ok (.aload_n 0, 1) := by decide +kernel
theorem dX12_readReason_67 : decode cX12_readReason 67 = .ok (.invokevirtual 213, 3) := by decide +kernel
theorem dX12_readReason_70 : decode cX12_readReason 70 = .ok (.aload_n 0, 1) := by decide +kernel
theorem dX12_readReason_71 : decode cX12_readReason 71 = .ok (.iload_n 1, 1) := by decide +kernel
theorem dX12_readReason_72 : decode cX12_readReason 72 = .ok (.invokevirtual 263, 3) := by decide +kernel
theorem dX12_readReason_75 : decode cX12_readReason 75 = .ok (.iconst (-1), 1) := by decide +kernel
theorem dX12_readReason_76 : decode cX12_readReason 76 = .ok (.if_icmp .ne 5, 3) := by decide +kernel
theorem dX12_readReason_79 : decode cX12_readReason 79 = .ok (.iconst (-1), 1) := by decide +kernel
theorem dX12_readReason_80 : decode cX12_readReason 80 = .ok (.ireturn, 1) := by decide +kernel
theorem dX12_readReason_81 : decode cX12_readReason 81 = .ok (.aload_n 0, 1) := by decide +kernel
theorem dX12_readReason_82 : decode cX12_readReason 82 = .ok (.iconst 5, 1) := by decide +kernel
theorem dX12_readReason_83 : decode cX12_readReason 83 = .ok (.invokevirtual 235, 3) := by decide +kernel
theorem dX12_readReason_86 : decode cX12_readReason 86 = .ok (.ifCond .ne (-20), 3) := by decide +kernel
theorem dX12_readReason_89 : decode cX12_readReason 89 = .ok (.aload_n 0, 1) := by decide +kernel
theorem dX12_readReason_90 : decode cX12_readReason 90 = .ok (.getfield 62, 3) := by decide +kernel
theorem dX12_readReason_93 : decode cX12_readReason 93 = .ok (.iload_n 1, 1) := by decide +kernel
theorem dX12_readReason_94 : decode cX12_readReason 94 = .ok (.iconst 2, 1) := by decide +kernel
theorem dX12_readReason_95 : decode cX12_readReason 95 = .ok (.iadd, 1) := by decide +kernel
theorem dX12_readReason_96 : decode cX12_readReason 96 = .ok (.aload_n 0, 1) := by decide +kernel
theorem dX12_readReason_97 : decode cX12_readReason 97 = .ok (.bipush 16, 2) := by decide +kernel
theorem dX12_readReason_99 : decode cX12_readReason 99 = .ok (.iconst 1, 1) := by decide +kernel
theorem dX12_readReason_100 : decode cX12_readReason 100 = .ok (.bipush 100, 2) := by decide +kernel
theorem dX12_readReason_102 : decode cX12_readReason 102 = .ok (.invokevirtual 269, 3) := by decide +kernel
theorem dX12_readReason_105 : decode cX12_readReason 105 = .ok (.iastore, 1) := by decide +kernel
theorem dX12_readReason_106 : decode cX12_readReason 106 = .ok (.aload_n 0, 1) := by decide +kernel
theorem dX12_readReason_107 : decode cX12_readReason 107 = .ok (.getfield 62, 3) := by decide +kernel
theorem dX12_readReason_110 : decode cX12_readReason 110 = .ok (.iload_n 1, 1) := by decide +kernel
theorem dX12_readReason_111 : decode cX12_readReason 111 = .ok (.iconst 2, 1) := by decide +kernel
theorem dX12_readReason_112 : decode cX12_readReason 112 = .ok (.iadd, 1) := by decide +kernel
theorem dX12_readReason_113 : decode cX12_readReason 113 = .ok (.iaload, 1) := by decide +kernel
theorem dX12_readReason_114 : decode cX12_readReason 114 = .ok (.iconst (-1), 1) := by decide +kernel
theorem dX12_readReason_115 : decode cX12_readReason 115 = .ok (.if_icmp .ne 7, 3) := by decide +kernel
theorem dX12_readReason_118 : decode cX12_readReason 118 = .ok (.iconst (-1), 1) := by decide +kernel
theorem dX12_readReason_119 : decode cX12_readReason 119 = .ok (.goto 9, 3) := by decide +kernel
theorem dX12_readReason_122 : decode cX12_readReason 122 = .ok (.aload_n 0, 1) := by decide +kernel
theorem dX12_readReason_123 : decode cX12_readReason 123 = .ok (.bipush 59, 2) := by decide +kernel
theorem dX12_readReason_125 : decode cX12_readReason 125 = .ok (.invokevirtual 266, 3) := by decide +kernel
theorem dX12_readReason_128 : decode cX12_readReason 128 = .ok (.ireturn, 1) := by decide +kernel
theorem dX12_readReasons_0 : decode cX12_readReasons 0 = .ok (.iconst 0, 1) := by decide +kernel
theorem dX12_readReasons_1 : decode cX12_readReasons 1 = .ok (.istore_n 1, 1) := by decide +kernel
theorem dX12_readReasons_2 : decode cX12_readReasons 2 = .ok (.aload_n 0, 1) := by decide +kernel
theorem dX12_readReasons_3 : decode cX12_readReasons 3 = .ok (.getfield 176, 3) := by decide +kernel
theorem dX12_readReasons_6 : decode cX12_readReasons 6 = .ok (.iconst 3, 1) := by decide +kernel
theorem dX12_readReasons_7 : decode cX12_readReasons 7 = .ok (.if_icmp .ne 69, 3) := by decide +kernel
theorem dX12_readReasons_10 : decode cX12_readReasons 10 = .ok (.aload_n 0, 1) := by decide +kernel
theorem dX12_readReasons_11 : decode cX12_readReasons 11 = .ok (.getfield 179, 3) := by decide +kernel
theorem dX12_readReasons_14 : decode cX12_readReasons 14 = .ok (.bipush 8, 2) := by decide +kernel
theorem dX12_readReasons_16 : decode cX12_readReasons 16 = .ok (.if_icmp .lt 9, 3) := by decide +kernel
theorem dX12_readReasons_19 : decode cX12_readReasons 19 = .ok (.aload_n 0, 1) := by decide +kernel
theorem dX12_readReasons_20 : decode cX12_readReasons 20 = .ok (.iconst 2, 1) := by decide +kernel
theorem dX12_readReasons_21 : decode cX12_readReasons 21 = .ok (.invokevirtual 206, 3) := by decide +kernel
theorem dX12_readReasons_24 : decode cX12_readReasons 24 = .ok (.ireturn, 1) := by decide +kernel
theorem dX12_readReasons_25 : decode cX12_readReasons 25 = .ok (.iload_n 1, 1) := by decide +kernel
theorem dX12_readReasons_26 : decode cX12_readReasons 26 = .ok (.bipush 16, 2) := by decide +kernel
theorem dX12_readReasons_28 : decode cX12_readReasons 28 = .ok (.if_icmp .ne 9, 3) := by decide +kernel
theorem dX12_readReasons_31 : decode cX12_readReasons 31 = .ok (.aload_n 0, 1) := by decide +kernel
theorem dX12_readReasons_32 : decode cX12_readReasons 32 = .ok (.iconst 3, 1) := by decide +kernel
theorem dX12_readReasons_33 : decode cX12_readReasons 33 = .ok (.invokevirtual 206, 3) := by decide +kernel
theorem dX12_readReasons_36 : decode cX12_readReasons 36 = .ok (.ireturn, 1) := by decide +kernel
theorem dX12_readReasons_37 : decode cX12_readReasons 37 = .ok (.bipush 48, 2) := by decide +kernel
theorem dX12_readReasons_39 : decode cX12_readReasons 39 = .ok (.iconst 3, 1) := by decide +kernel
theorem dX12_readReasons_40 : decode cX12_readReasons 40 = .ok (.iload_n 1, 1) := by decide +kernel
theorem dX12_readReasons_41 : decode cX12_readReasons 41 = .ok (.imul, 1) := by decide +kernel
theorem dX12_readReasons_42 : decode cX12_readReasons 42 = .ok (.iadd, 1) := by decide +kernel
theorem dX12_readReasons_43 : decode cX12_readReasons 43 = .ok (.istore_n 2, 1) := by decide +kernel
theorem dX12_readReasons_44 : decode cX12_readReasons 44 = .ok (.aload_n 0, 1) := by decide +kernel
theorem dX12_readReasons_45 : decode cX12_readReasons 45 = .ok (.getfield 62, 3) := by decide +kernel
theorem dX12_readReasons_48 : decode cX12_readReasons 48 = .ok (.iload_n 2, 1) := by decide +kernel
theorem dX12_readReasons_49 : decode cX12_readReasons 49 = .ok (.aload_n 0, 1) := by decide +kernel
theorem dX12_readReasons_50 : decode cX12_readReasons 50 = .ok (.getfield 179, 3) := by decide +kernel
theorem dX12_readReasons_53 : decode cX12_readReasons 53 = .ok (.iastore, 1) := by decide +kernel
theorem dX12_readReasons_54 : decode cX12_readReasons 54 = .ok (.aload_n 0, 1) := by decide +kernel
theorem dX12_readReasons_55 : decode cX12_readReasons 55 = .ok (.invokevirtual 213, 3) := by decide +kernel
theorem dX12_readReasons_58 : decode cX12_readReasons 58 = .ok (.aload_n 0, 1) := by decide +kernel
theorem dX12_readReasons_59 : decode cX12_readReasons 59 = .ok (.iload_n 2, 1) := by decide +kernel
theorem dX12_readReasons_60 : decode cX12_readReasons 60 = .ok (.invokevirtual 273, 3) := by decide +kernel
theorem dX12_readReasons_63 : decode cX12_readReasons 63 = .ok (.iconst (-1), 1) := by decide +kernel
theorem dX12_readReasons_64 : decode cX12_readReasons 64 = .ok (.if_icmp .ne 5, 3) := by decide +kernel
theorem dX12_readReasons_67 : decode cX12_readReasons 67 = .ok (.iconst (-1), 1) := by decide +kernel
theorem dX12_readReasons_68 : decode cX12_readReasons 68 = .ok (.ireturn, 1) := by decide +kernel
theorem dX12_readReasons_69 : decode cX12_readReasons 69 = .ok (.iload_n 1, 1) := by decide +kernel
theorem dX12_readReasons_70 : decode cX12_readReasons 70 = .ok (.iconst 1, 1) := by decide +kernel
theorem dX12_readReasons_71 : decode cX12_readReasons 71 = .ok (.iadd, 1) := by decide +kernel
theorem dX12_readReasons_72 : decode cX12_readReasons 72 = .ok (.istore_n 1, 1) := by decide +kernel
theorem dX12_readReasons_73 : decode cX12_readReasons 73 = .ok (.goto (-71), 3) := by decide +kernel
theorem dX12_readReasons_76 : decode cX12_readReasons 76 = .ok (.aload_n 0, 1) := by decide +kernel
theorem dX12_readReasons_77 : decode cX12_readReasons 77 = .ok (.getfield 176, 3) := by decide +kernel
theorem dX12_readReasons_80 : decode cX12_readReasons 80 = .ok (.ifCond .ne 7, 3) := by decide +kernel
theorem dX12_readReasons_83 : decode cX12_readReasons 83 = .ok (.iload_n 1, 1) := by decide +kernel
theorem dX12_readReasons_84 : decode cX12_readReasons 84 = .ok (.goto 8, 3) := by decide +kernel
theorem dX12_readReasons_87 : decode cX12_readReasons 87 = .ok (.aload_n 0, 1) := by decide +kernel
theorem dX12_readReasons_88 : decode cX12_readReasons 88 = .ok (.iconst 1, 1) := by decide +kernel
theorem dX12_readReasons_89 : decode cX12_readReasons 89 = .ok (.invokevirtual 206, 3) := by decide +kernel
theorem dX12_readReasons_92 : decode cX12_readReasons 92 = .ok (.ireturn, 1) := by decide +kernel
theorem dX12_readWorks_0 : decode cX12_readWorks 0 = .ok (.iconst 0, 1) := by decide +kernel
theorem dX12_readWorks_1 : decode cX12_readWorks 1 = .ok (.istore_n 1, 1) := by decide +kernel
theorem dX12_readWorks_2 : decode cX12_readWorks 2 = .ok (.aload_n 0, 1) := by decide +kernel
theorem dX12_readWorks_3 : decode cX12_readWorks 3 = .ok (.bipush 18, 2) := by decide +kernel
theorem dX12_readWorks_5 : decode cX12_readWorks 5 = .ok (.invokevirtual 235, 3) := by decide +kernel
theorem dX12_readWorks_8 : decode cX12_readWorks 8 = .ok (.ifCond .eq 149, 3) := by decide +kernel
theorem dX12_readWorks_11 : decode cX12_readWorks 11 = .ok (.iload_n 1, 1) := by decide +kernel
theorem dX12_readWorks_12 : decode cX12_readWorks 12 = .ok (.bipush 12, 2) := by decide +kernel
theorem dX12_readWorks_14 : decode cX12_readWorks 14 = .ok (.if_icmp .ne 9, 3) := by decide +kernel
theorem dX12_readWorks_17 : decode cX12_readWorks 17 = .ok (.aload_n 0, 1) := by decide +kernel
theorem dX12_readWorks_18 : decode cX12_readWorks 18 = .ok (.iconst 3, 1) := by decide +kernel
theorem dX12_readWorks_19 : decode cX12_readWorks 19 = .ok (.invokevirtual 206, 3) := by decide +kernel
theorem dX12_readWorks_22 : decode cX12_readWorks 22 = .ok (.ireturn, 1) := by decide +kernel
theorem dX12_readWorks_23 : decode cX12_readWorks 23 = .ok (.bipush 36, 2) := by decide +kernel
theorem dX12_readWorks_25 : decode cX12_readWorks 25 = .ok (.iconst 3, 1) := by decide +kernel
theorem dX12_readWorks_26 : decode cX12_readWorks 26 = .ok (.iload_n 1, 1) := by decide +kernel
theorem dX12_readWorks_27 : decode cX12_readWorks 27 = .ok (.imul, 1) := by decide +kernel
theorem dX12_readWorks_28 : decode cX12_readWorks 28 = .ok (.iadd, 1) := by decide +kernel
theorem dX12_readWorks_29 : decode cX12_readWorks 29 = .ok (.istore_n 2, 1) := by decide +kernel
theorem dX12_readWorks_30 : decode cX12_readWorks 30 = .ok (.aload_n 0, 1) := by decide +kernel
theorem dX12_readWorks_31 : decode cX12_readWorks 31 = .ok (.getfield 65, 3) := by decide +kernel
theorem dX12_readWorks_34 : decode cX12_readWorks 34 = .ok (.iload_n 2, 1) := by decide +kernel
theorem dX12_readWorks_35 : decode cX12_readWorks 35 = .ok (.aload_n 0, 1) := by decide +kernel
theorem dX12_readWorks_36 : decode cX12_readWorks 36 = .ok (.bipush 18, 2) := by decide +kernel
theorem dX12_readWorks_38 : decode cX12_readWorks 38 = .ok (.iconst 0, 1) := by decide +kernel
theorem dX12_readWorks_39 : decode cX12_readWorks 39 = .ok (.aload_n 0, 1) := by decide +kernel
theorem dX12_readWorks_40 : decode cX12_readWorks 40 = .ok (.getfield 131, 3) := by decide +kernel
theorem dX12_readWorks_43 : decode cX12_readWorks 43 = .ok (.iconst 1, 1) := by decide +kernel
theorem dX12_readWorks_44 : decode cX12_readWorks 44 = .ok (.isub, 1) := by decide +kernel
theorem dX12_readWorks_45 : decode cX12_readWorks 45 = .ok (.invokevirtual 269, 3) := by decide +kernel
theorem dX12_readWorks_48 : decode cX12_readWorks 48 = .ok (.iastore, 1) := by decide +kernel
theorem dX12_readWorks_49 : decode cX12_readWorks 49 = .ok (.aload_n 0, 1) := by decide +kernel
theorem dX12_readWorks_50 : decode cX12_readWorks 50 = .ok (.getfield 65, 3) := by decide +kernel
theorem dX12_readWorks_53 : decode cX12_readWorks 53 = .ok (.iload_n 2, 1) := by decide +kernel
theorem dX12_readWorks_54 : decode cX12_readWorks 54 = .ok (.iaload, 1) := by decide +kernel
theorem dX12_readWorks_55 : decode cX12_readWorks 55 = .ok (.iconst (-1), 1) := by decide +kernel
theorem dX12_readWorks_56 : decode cX12_readWorks 56 = .ok (.if_icmp .ne 5, 3) := by decide +kernel
theorem dX12_readWorks_59 : decode cX12_readWorks 59 = .ok (.iconst (-1), 1) := by decide +kernel
theorem dX12_readWorks_60 : decode cX12_readWorks 60 = .ok (.ireturn, 1) := by decide +kernel
theorem dX12_readWorks_61 : decode cX12_readWorks 61 = .ok (.aload_n 0, 1) := by decide +kernel
theorem dX12_readWorks_62 : decode cX12_readWorks 62 = .ok (.getfield 65, 3) := by decide +kernel
theorem dX12_readWorks_65 : decode cX12_readWorks 65 = .ok (.iload_n 2, 1) := by decide +kernel
theorem dX12_readWorks_66 : decode cX12_readWorks 66 = .ok (.iconst 1, 1) := by decide +kernel
theorem dX12_readWorks_67 : decode cX12_readWorks 67 = .ok (.iadd, 1) := by decide +kernel
theorem dX12_readWorks_68 : decode cX12_readWorks 68 = .ok (.aload_n 0, 1) := by decide +kernel
theorem dX12_readWorks_69 : decode cX12_readWorks 69 = .ok (.bipush 19, 2) := by decide +kernel
theorem dX12_readWorks_71 : decode cX12_readWorks 71 = .ok (.invokevirtual 235, 3) := by decide +kernel
theorem dX12_readWorks_74 : decode cX12_readWorks 74 = .ok (.ifCond .eq 7, 3) := by decide +kernel
theorem dX12_readWorks_77 : decode cX12_readWorks 77 = .ok (.iconst 1, 1) := by decide +kernel
theorem dX12_readWorks_78 : decode cX12_readWorks 78 = .ok (.goto 4, 3) := by decide +kernel
theorem dX12_readWorks_81 : decode cX12_readWorks 81 = .ok (.iconst 0, 1) := by decide +kernel
theorem dX12_readWorks_82 : decode cX12_readWorks 82 = .ok (.iastore, 1) := by decide +kernel
theorem dX12_readWorks_83 : decode cX12_readWorks 83 = .ok (.aload_n 0, 1) := by decide +kernel
theorem dX12_readWorks_84 : decode cX12_readWorks 84 = .ok (.bipush 19, 2) := by decide +kernel
theorem dX12_readWorks_86 : decode cX12_readWorks 86 = .ok (.invokevirtual 235, 3) := by decide +kernel
theorem dX12_readWorks_89 : decode cX12_readWorks 89 = .ok (.ifCond .ne 18, 3) := by decide +kernel
theorem dX12_readWorks_92 : decode cX12_readWorks 92 = .ok (.aload_n 0, 1) := by decide +kernel
theorem dX12_readWorks_93 : decode cX12_readWorks 93 = .ok (.bipush 20, 2) := by decide +kernel
theorem dX12_readWorks_95 : decode cX12_readWorks 95 = .ok (.invokevirtual 235, 3) := by decide +kernel
theorem dX12_readWorks_98 : decode cX12_readWorks 98 = .ok (.ifCond .ne 9, 3) := by decide +kernel
theorem dX12_readWorks_101 : decode cX12_readWorks 101 = .ok (.aload_n 0, 1) := by decide +kernel
theorem dX12_readWorks_102 : decode cX12_readWorks 102 = .ok (.iconst 1, 1) := by decide +kernel
theorem dX12_readWorks_103 : decode cX12_readWorks 103 = .ok (.invokevirtual 206, 3) := by decide +kernel
theorem dX12_readWorks_106 : decode cX12_readWorks 106 = .ok (.ireturn, 1) := by decide +kernel
theorem dX12_readWorks_107 : decode cX12_readWorks 107 = .ok (.aload_n 0, 1) := by decide +kernel
theorem dX12_readWorks_108 : decode cX12_readWorks 108 = .ok (.invokevirtual 213, 3) := by decide +kernel
theorem dX12_readWorks_111 : decode cX12_readWorks 111 = .ok (.aload_n 0, 1) := by decide +kernel
theorem dX12_readWorks_112 : decode cX12_readWorks 112 = .ok (.getfield 65, 3) := by decide +kernel
theorem dX12_readWorks_115 : decode cX12_readWorks 115 = .ok (.iload_n 2, 1) := by decide +kernel
theorem dX12_readWorks_116 : decode cX12_readWorks 116 = .ok (.iconst 2, 1) := by decide +kernel
theorem dX12_readWorks_117 : decode cX12_readWorks 117 = .ok (.iadd, 1) := by decide +kernel
theorem dX12_readWorks_118 : decode cX12_readWorks 118 = .ok (.aload_n 0, 1) := by decide +kernel
theorem dX12_readWorks_119 : decode cX12_readWorks 119 = .ok (.iconst 0, 1) := by decide +kernel
theorem dX12_readWorks_120 : decode cX12_readWorks 120 = .ok (.bipush 7, 2) := by decide +kernel
theorem dX12_readWorks_122 : decode cX12_readWorks 122 = .ok (.invokevirtual 260, 3) := by decide +kernel
theorem dX12_readWorks_125 : decode cX12_readWorks 125 = .ok (.iastore, 1) := by decide +kernel
theorem dX12_readWorks_126 : decode cX12_readWorks 126 = .ok (.aload_n 0, 1) := by decide +kernel
theorem dX12_readWorks_127 : decode cX12_readWorks 127 = .ok (.getfield 65, 3) := by decide +kernel
theorem dX12_readWorks_130 : decode cX12_readWorks 130 = .ok (.iload_n 2, 1) := by decide +kernel
theorem dX12_readWorks_131 : decode cX12_readWorks 131 = .ok (.iconst 2, 1) := by decide +kernel
theorem dX12_readWorks_132 : decode cX12_readWorks 132 = .ok (.iadd, 1) := by decide +kernel
theorem dX12_readWorks_133 : decode cX12_readWorks 133 = .ok (.iaload, 1) := by decide +kernel
theorem dX12_readWorks_134 : decode cX12_readWorks 134 = .ok (.iconst (-1), 1) := by decide +kernel
theorem dX12_readWorks_135 : decode cX12_readWorks 135 = .ok (.if_icmp .eq 13, 3) := by decide +kernel
theorem dX12_readWorks_138 : decode cX12_readWorks 138 = .ok (.aload_n 0, 1) := by decide +kernel
theorem dX12_readWorks_139 : decode cX12_readWorks 139 = .ok (.bipush 59, 2) := by decide +kernel
theorem dX12_readWorks_141 : decode cX12_readWorks 141 = .ok (.invokevirtual 266, 3) := by decide +kernel
theorem dX12_readWorks_144 : decode cX12_readWorks 144 = .ok (.iconst (-1), 1) := by decide +kernel
theorem dX12_readWorks_145 : decode cX12_readWorks 145 = .ok (.if_icmp .ne 5, 3) := by decide +kernel
theorem dX12_readWorks_148 : decode cX12_readWorks 148 = .ok (.iconst (-1), 1) := by decide +kernel
theorem dX12_readWorks_149 : decode cX12_readWorks 149 = .ok (.ireturn, 1) := by decide +kernel
theorem dX12_readWorks_150 : decode cX12_readWorks 150 = .ok (.iload_n 1, 1) := by decide +kernel
theorem dX12_readWorks_151 : decode cX12_readWorks 151 = .ok (.iconst 1, 1) := by decide +kernel
theorem dX12_readWorks_152 : decode cX12_readWorks 152 = .ok (.iadd, 1) := by decide +kernel
theorem dX12_readWorks_153 : decode cX12_readWorks 153 = .ok (.istore_n 1, 1) := by decide +kernel
theorem dX12_readWorks_154 : decode cX12_readWorks 154 = .ok (.goto (-152), 3) := by decide +kernel
theorem dX12_readWorks_157 : decode cX12_readWorks 157 = .ok (.aload_n 0, 1) := by decide +kernel
theorem dX12_readWorks_158 : decode cX12_readWorks 158 = .ok (.getfield 176, 3) := by decide +kernel
theorem dX12_readWorks_161 : decode cX12_readWorks 161 = .ok (.ifCond .ne 7, 3) := by decide +kernel
theorem dX12_readWorks_164 : decode cX12_readWorks 164 = .ok (.iload_n 1, 1) := by decide +kernel
theorem dX12_readWorks_165 : decode cX12_readWorks 165 = .ok (.goto 8, 3) := by decide +kernel
theorem dX12_readWorks_168 : decode cX12_readWorks 168 = .ok (.aload_n 0, 1) := by decide +kernel
theorem dX12_readWorks_169 : decode cX12_readWorks 169 = .ok (.iconst 1, 1) := by decide +kernel
theorem dX12_readWorks_170 : decode cX12_readWorks 170 = .ok (.invokevirtual 206, 3) := by decide +kernel
theorem dX12_readWorks_173 : decode cX12_readWorks 173 = .ok (.ireturn, 1) := by decide +kernel
theorem dX12_kindOf_0 : decode cX12_kindOf 0 = .ok (.iload_n 1, 1) := by decide +kernel
theorem dX12_kindOf_1 : decode cX12_kindOf 1 = .ok (.bipush 22, 2) := by decide +kernel
theorem dX12_kindOf_3 : decode cX12_kindOf 3 = .ok (.if_icmp .ne 7, 3) := by decide +kernel
theorem dX12_kindOf_6 : decode cX12_kindOf 6 = .ok (.iconst 0, 1) := by decide +kernel
theorem dX12_kindOf_7 : decode cX12_kindOf 7 = .ok (.goto 34, 3) := by decide +kernel
theorem dX12_kindOf_10 : decode cX12_kindOf 10 = .ok (.iload_n 1, 1) := by decide +kernel
theorem dX12_kindOf_11 : decode cX12_kindOf 11 = .ok (.bipush 9, 2) := by decide +kernel
theorem dX12_kindOf_13 : decode cX12_kindOf 13 = .ok (.if_icmp .ne 7, 3) := by decide +kernel
theorem dX12_kindOf_16 : decode cX12_kindOf 16 = .ok (.iconst 2, 1) := by decide +kernel
theorem dX12_kindOf_17 : decode cX12_kindOf 17 = .ok (.goto 24, 3) := by decide +kernel
theorem dX12_kindOf_20 : decode cX12_kindOf 20 = .ok (.iload_n 1, 1) := by decide +kernel
theorem dX12_kindOf_21 : decode cX12_kindOf 21 = .ok (.bipush 25, 2) := by decide +kernel
theorem dX12_kindOf_23 : decode cX12_kindOf 23 = .ok (.if_icmp .ne 7, 3) := by decide +kernel
theorem dX12_kindOf_26 : decode cX12_kindOf 26 = .ok (.iconst 1, 1) := by decide +kernel
theorem dX12_kindOf_27 : decode cX12_kindOf 27 = .ok (.goto 14, 3) := by decide +kernel
theorem dX12_kindOf_30 : decode cX12_kindOf 30 = .ok (.iload_n 1, 1) := by decide +kernel
theorem dX12_kindOf_31 : decode cX12_kindOf 31 = .ok (.bipush 26, 2) := by decide +kernel
theorem dX12_kindOf_33 : decode cX12_kindOf 33 = .ok (.if_icmp .ne 7, 3) := by decide +kernel
theorem dX12_kindOf_36 : decode cX12_kindOf 36 = .ok (.iconst 3, 1) := by decide +kernel
theorem dX12_kindOf_37 : decode cX12_kindOf 37 = .ok (.goto 4, 3) := by decide +kernel
theorem dX12_kindOf_40 : decode cX12_kindOf 40 = .ok (.iconst (-1), 1) := by decide +kernel
theorem dX12_kindOf_41 : decode cX12_kindOf 41 = .ok (.ireturn, 1) := by decide +kernel
theorem dX12_readDeed_0 : decode cX12_readDeed 0 = .ok (.aload_n 0, 1) := by decide +kernel
theorem dX12_readDeed_1 : decode cX12_readDeed 1 = .ok (.getfield 68, 3) := by decide +kernel
theorem dX12_readDeed_4 : decode cX12_readDeed 4 = .ok (.iload_n 1, 1) := by decide +kernel
theorem dX12_readDeed_5 : decode cX12_readDeed 5 = .ok (.iconst 1, 1) := by decide +kernel
theorem dX12_readDeed_6 : decode cX12_readDeed 6 = .ok (.iadd, 1) := by decide +kernel
theorem dX12_readDeed_7 : decode cX12_readDeed 7 = .ok (.iaload, 1) := by decide +kernel
theorem dX12_readDeed_8 : decode cX12_readDeed 8 = .ok (.istore_n 2, 1) := by decide +kernel
theorem dX12_readDeed_9 : decode cX12_readDeed 9 = .ok (.iload_n 2, 1) := by decide +kernel
theorem dX12_readDeed_10 : decode cX12_readDeed 10 = .ok (.iconst 1, 1) := by decide +kernel
theorem dX12_readDeed_11 : decode cX12_readDeed 11 = .ok (.if_icmp .ne 5, 3) := by decide +kernel
theorem dX12_readDeed_14 : decode cX12_readDeed 14 = .ok (.iconst 0, 1) := by decide +kernel
theorem dX12_readDeed_15 : decode cX12_readDeed 15 = .ok (.ireturn, 1) := by decide +kernel
theorem dX12_readDeed_16 : decode cX12_readDeed 16 = .ok (.aload_n 0, 1) := by decide +kernel
theorem dX12_readDeed_17 : decode cX12_readDeed 17 = .ok (.getfield 68, 3) := by decide +kernel
theorem dX12_readDeed_20 : decode cX12_readDeed 20 = .ok (.iload_n 1, 1) := by decide +kernel
theorem dX12_readDeed_21 : decode cX12_readDeed 21 = .ok (.iconst 3, 1) := by decide +kernel
theorem dX12_readDeed_22 : decode cX12_readDeed 22 = .ok (.iadd, 1) := by decide +kernel
theorem dX12_readDeed_23 : decode cX12_readDeed 23 = .ok (.iload_n 2, 1) := by decide +kernel
theorem dX12_readDeed_24 : decode cX12_readDeed 24 = .ok (.iconst 2, 1) := by decide +kernel
theorem dX12_readDeed_25 : decode cX12_readDeed 25 = .ok (.if_icmp .ne 15, 3) := by decide +kernel
theorem dX12_readDeed_28 : decode cX12_readDeed 28 = .ok (.aload_n 0, 1) := by decide +kernel
theorem dX12_readDeed_29 : decode cX12_readDeed 29 = .ok (.bipush 24, 2) := by decide +kernel
theorem dX12_readDeed_31 : decode cX12_readDeed 31 = .ok (.iconst 1, 1) := by decide +kernel
theorem dX12_readDeed_32 : decode cX12_readDeed 32 = .ok (.bipush 99, 2) := by decide +kernel
theorem dX12_readDeed_34 : decode cX12_readDeed 34 = .ok (.invokevirtual 269, 3) := by decide +kernel
theorem dX12_readDeed_37 : decode cX12_readDeed 37 = .ok (.goto 12, 3) := by decide +kernel
theorem dX12_readDeed_40 : decode cX12_readDeed 40 = .ok (.aload_n 0, 1) := by decide +kernel
theorem dX12_readDeed_41 : decode cX12_readDeed 41 = .ok (.bipush 23, 2) := by decide +kernel
theorem dX12_readDeed_43 : decode cX12_readDeed 43 = .ok (.iconst 0, 1) := by decide +kernel
theorem dX12_readDeed_44 : decode cX12_readDeed 44 = .ok (.bipush 7, 2) := by decide +kernel
theorem dX12_readDeed_46 : decode cX12_readDeed 46 = .ok (.invokevirtual 269, 3) := by decide +kernel
theorem dX12_readDeed_49 : decode cX12_readDeed 49 = .ok (.iastore, 1) := by decide +kernel
theorem dX12_readDeed_50 : decode cX12_readDeed 50 = .ok (.aload_n 0, 1) := by decide +kernel
theorem dX12_readDeed_51 : decode cX12_readDeed 51 = .ok (.getfield 68, 3) := by decide +kernel
theorem dX12_readDeed_54 : decode cX12_readDeed 54 = .ok (.iload_n 1, 1) := by decide +kernel
theorem dX12_readDeed_55 : decode cX12_readDeed 55 = .ok (.iconst 3, 1) := by decide +kernel
theorem dX12_readDeed_56 : decode cX12_readDeed 56 = .ok (.iadd, 1) := by decide +kernel
theorem dX12_readDeed_57 : decode cX12_readDeed 57 = .ok (.iaload, 1) := by decide +kernel
theorem dX12_readDeed_58 : decode cX12_readDeed 58 = .ok (.iconst (-1), 1) := by decide +kernel
theorem dX12_readDeed_59 : decode cX12_readDeed 59 = .ok (.if_icmp .eq 8, 3) := by decide +kernel
theorem dX12_readDeed_62 : decode cX12_readDeed 62 = .ok (.iload_n 2, 1) := by decide +kernel
theorem dX12_readDeed_63 : decode cX12_readDeed 63 = .ok (.iconst 2, 1) := by decide +kernel
theorem dX12_readDeed_64 : decode cX12_readDeed 64 = .ok (.if_icmp .ne 12, 3) := by decide +kernel
theorem dX12_readDeed_67 : decode cX12_readDeed 67 = .ok (.aload_n 0, 1) := by decide +kernel
theorem dX12_readDeed_68 : decode cX12_readDeed 68 = .ok (.getfield 68, 3) := by decide +kernel
theorem dX12_readDeed_71 : decode cX12_readDeed 71 = .ok (.iload_n 1, 1) := by decide +kernel
theorem dX12_readDeed_72 : decode cX12_readDeed 72 = .ok (.iconst 3, 1) := by decide +kernel
theorem dX12_readDeed_73 : decode cX12_readDeed 73 = .ok (.iadd, 1) := by decide +kernel
theorem dX12_readDeed_74 : decode cX12_readDeed 74 = .ok (.iaload, 1) := by decide +kernel
theorem dX12_readDeed_75 : decode cX12_readDeed 75 = .ok (.ireturn, 1) := by decide +kernel
theorem dX12_readDeed_76 : decode cX12_readDeed 76 = .ok (.aload_n 0, 1) := by decide +kernel
theorem dX12_readDeed_77 : decode cX12_readDeed 77 = .ok (.getfield 68, 3) := by decide +kernel
theorem dX12_readDeed_80 : decode cX12_readDeed 80 = .ok (.iload_n 1, 1) := by decide +kernel
theorem dX12_readDeed_81 : decode cX12_readDeed 81 = .ok (.iconst 4, 1) := by decide +kernel
theorem dX12_readDeed_82 : decode cX12_readDeed 82 = .ok (.iadd, 1) := by decide +kernel
theorem dX12_readDeed_83 : decode cX12_readDeed 83 = .ok (.iload_n 2, 1) := by decide +kernel
theorem dX12_readDeed_84 : decode cX12_readDeed 84 = .ok (.ifCond .ne 15, 3) := by decide +kernel
theorem dX12_readDeed_87 : decode cX12_readDeed 87 = .ok (.aload_n 0, 1) := by decide +kernel
theorem dX12_readDeed_88 : decode cX12_readDeed 88 = .ok (.bipush 8, 2) := by decide +kernel
theorem dX12_readDeed_90 : decode cX12_readDeed 90 = .ok (.iconst 0, 1) := by decide +kernel
theorem dX12_readDeed_91 : decode cX12_readDeed 91 = .ok (.bipush 9, 2) := by decide +kernel
theorem dX12_readDeed_93 : decode cX12_readDeed 93 = .ok (.invokevirtual 269, 3) := by decide +kernel
theorem dX12_readDeed_96 : decode cX12_readDeed 96 = .ok (.goto 12, 3) := by decide +kernel
theorem dX12_readDeed_99 : decode cX12_readDeed 99 = .ok (.aload_n 0, 1) := by decide +kernel
theorem dX12_readDeed_100 : decode cX12_readDeed 100 = .ok (.bipush 27, 2) := by decide +kernel
theorem dX12_readDeed_102 : decode cX12_readDeed 102 = .ok (.iconst 0, 1) := by decide +kernel
theorem dX12_readDeed_103 : decode cX12_readDeed 103 = .ok (.bipush 100, 2) := by decide +kernel
theorem dX12_readDeed_105 : decode cX12_readDeed 105 = .ok (.invokevirtual 269, 3) := by decide +kernel
theorem dX12_readDeed_108 : decode cX12_readDeed 108 = .ok (.iastore, 1) := by decide +kernel
theorem dX12_readDeed_109 : decode cX12_readDeed 109 = .ok (.aload_n 0, 1) := by decide +kernel
theorem dX12_readDeed_110 : decode cX12_readDeed 110 = .ok (.getfield 68, 3) := by decide +kernel
theorem dX12_readDeed_113 : decode cX12_readDeed 113 = .ok (.iload_n 1, 1) := by decide +kernel
theorem dX12_readDeed_114 : decode cX12_readDeed 114 = .ok (.iconst 4, 1) := by decide +kernel
theorem dX12_readDeed_115 : decode cX12_readDeed 115 = .ok (.iadd, 1) := by decide +kernel
theorem dX12_readDeed_116 : decode cX12_readDeed 116 = .ok (.iaload, 1) := by decide +kernel
theorem dX12_readDeed_117 : decode cX12_readDeed 117 = .ok (.ireturn, 1) := by decide +kernel
theorem dX12_readPlanLine_0 : decode cX12_readPlanLine 0 = .ok (.aload_n 0, 1) := by decide +kernel
theorem dX12_readPlanLine_1 : decode cX12_readPlanLine 1 = .ok (.getfield 68, 3) := by decide +kernel
theorem dX12_readPlanLine_4 : decode cX12_readPlanLine 4 = .ok (.iload_n 1, 1) := by decide +kernel
theorem dX12_readPlanLine_5 : decode cX12_readPlanLine 5 = .ok (.aload_n 0, 1) := by decide +kernel
theorem dX12_readPlanLine_6 : decode cX12_readPlanLine 6 = .ok (.bipush 21, 2) := by decide +kernel
theorem dX12_readPlanLine_8 : decode cX12_readPlanLine 8 = .ok (.iconst 0, 1) := by decide +kernel
theorem dX12_readPlanLine_9 : decode cX12_readPlanLine 9 = .ok (.sipush 999, 3) := by decide +kernel
theorem dX12_readPlanLine_12 : decode cX12_readPlanLine 12 = .ok (.invokevirtual 269, 3) := by decide +kernel
theorem dX12_readPlanLine_15 : decode cX12_readPlanLine 15 = .ok (.iastore, 1) := by decide +kernel
theorem dX12_readPlanLine_16 : decode cX12_readPlanLine 16 = .ok (.aload_n 0, 1) := by decide +kernel
theorem dX12_readPlanLine_17 : decode cX12_readPlanLine 17 = .ok (.getfield 68, 3) := by decide +kernel
theorem dX12_readPlanLine_20 : decode cX12_readPlanLine 20 = .ok (.iload_n 1, 1) := by decide +kernel
theorem dX12_readPlanLine_21 : decode cX12_readPlanLine 21 = .ok (.iaload, 1) := by decide +kernel
theorem dX12_readPlanLine_22 : decode cX12_readPlanLine 22 = .ok (.iconst (-1), 1) := by decide +kernel
theorem dX12_readPlanLine_23 : decode cX12_readPlanLine 23 = .ok (.if_icmp .ne 5, 3) := by decide +kernel
theorem dX12_readPlanLine_26 : decode cX12_readPlanLine 26 = .ok (.iconst (-1), 1) := by decide +kernel
theorem dX12_readPlanLine_27 : decode cX12_readPlanLine 27 = .ok (.ireturn, 1) := by decide +kernel
theorem dX12_readPlanLine_28 : decode cX12_readPlanLine 28 = .ok (.aload_n 0, 1) := by decide +kernel
theorem dX12_readPlanLine_29 : decode cX12_readPlanLine 29 = .ok (.getfield 68, 3) := by decide +kernel
theorem dX12_readPlanLine_32 : decode cX12_readPlanLine 32 = .ok (.iload_n 1, 1) := by decide +kernel
theorem dX12_readPlanLine_33 : decode cX12_readPlanLine 33 = .ok (.iconst 1, 1) := by decide +kernel
theorem dX12_readPlanLine_34 : decode cX12_readPlanLine 34 = .ok (.iadd, 1) := by decide +kernel
theorem dX12_readPlanLine_35 : decode cX12_readPlanLine 35 = .ok (.aload_n 0, 1) := by decide +kernel
theorem dX12_readPlanLine_36 : decode cX12_readPlanLine 36 = .ok (.getfield 176, 3) := by decide +kernel
theorem dX12_readPlanLine_39 : decode cX12_readPlanLine 39 = .ok (.iconst 2, 1) := by decide +kernel
theorem dX12_readPlanLine_40 : decode cX12_readPlanLine 40 = .ok (.if_icmp .ne 14, 3) := by decide +kernel
theorem dX12_readPlanLine_43 : decode cX12_readPlanLine 43 = .ok (.aload_n 0, 1) := by decide +kernel
theorem dX12_readPlanLine_44 : decode cX12_readPlanLine 44 = .ok (.aload_n 0, 1) := by decide +kernel
theorem dX12_readPlanLine_45 : decode cX12_readPlanLine 45 = .ok (.getfield 179, 3) := by decide +kernel
theorem dX12_readPlanLine_48 : decode cX12_readPlanLine 48 = .ok (.invokevirtual 276, 3) := by decide +kernel
theorem dX12_readPlanLine_51 : decode cX12_readPlanLine 51 = .ok (.goto 4, 3) := by decide +kernel
theorem dX12_readPlanLine_54 : decode cX12_readPlanLine 54 = .ok (.iconst (-1), 1) := by decide +kernel
theorem dX12_readPlanLine_55 : decode cX12_readPlanLine 55 = .ok (.iastore, 1) := by decide +kernel
theorem dX12_readPlanLine_56 : decode cX12_readPlanLine 56 = .ok (.aload_n 0, 1) := by decide +kernel
theorem dX12_readPlanLine_57 : decode cX12_readPlanLine 57 = .ok (.getfield 68, 3) := by decide +kernel
theorem dX12_readPlanLine_60 : decode cX12_readPlanLine 60 = .ok (.iload_n 1, 1) := by decide +kernel
theorem dX12_readPlanLine_61 : decode cX12_readPlanLine 61 = .ok (.iconst 1, 1) := by decide +kernel
theorem dX12_readPlanLine_62 : decode cX12_readPlanLine 62 = .ok (.iadd, 1) := by decide +kernel
theorem dX12_readPlanLine_63 : decode cX12_readPlanLine 63 = .ok (.iaload, 1) := by decide +kernel
theorem dX12_readPlanLine_64 : decode cX12_readPlanLine 64 = .ok (.iconst (-1), 1) := by decide +kernel
theorem dX12_readPlanLine_65 : decode cX12_readPlanLine 65 = .ok (.if_icmp .ne 9, 3) := by decide +kernel
theorem dX12_readPlanLine_68 : decode cX12_readPlanLine 68 = .ok (.aload_n 0, 1) := by decide +kernel
theorem dX12_readPlanLine_69 : decode cX12_readPlanLine 69 = .ok (.iconst 1, 1) := by decide +kernel
theorem dX12_readPlanLine_70 : decode cX12_readPlanLine 70 = .ok (.invokevirtual 206, 3) := by decide +kernel
theorem dX12_readPlanLine_73 : decode cX12_readPlanLine 73 = .ok (.ireturn, 1) := by decide +kernel
theorem dX12_readPlanLine_74 : decode cX12_readPlanLine 74 = .ok (.aload_n 0, 1) := by decide +kernel
theorem dX12_readPlanLine_75 : decode cX12_readPlanLine 75 = .ok (.invokevirtual 213, 3) := by decide +kernel
theorem dX12_readPlanLine_78 : decode cX12_readPlanLine 78 = .ok (.aload_n 0, 1) := by decide +kernel
theorem dX12_readPlanLine_79 : decode cX12_readPlanLine 79 = .ok (.getfield 68, 3) := by decide +kernel
theorem dX12_readPlanLine_82 : decode cX12_readPlanLine 82 = .ok (.iload_n 1, 1) := by decide +kernel
theorem dX12_readPlanLine_83 : decode cX12_readPlanLine 83 = .ok (.iconst 2, 1) := by decide +kernel
theorem dX12_readPlanLine_84 : decode cX12_readPlanLine 84 = .ok (.iadd, 1) := by decide +kernel
theorem dX12_readPlanLine_85 : decode cX12_readPlanLine 85 = .ok (.aload_n 0, 1) := by decide +kernel
theorem dX12_readPlanLine_86 : decode cX12_readPlanLine 86 = .ok (.iconst 0, 1) := by decide +kernel
theorem dX12_readPlanLine_87 : decode cX12_readPlanLine 87 = .ok (.aload_n 0, 1) := by decide +kernel
theorem dX12_readPlanLine_88 : decode cX12_readPlanLine 88 = .ok (.getfield 131, 3) := by decide +kernel
theorem dX12_readPlanLine_91 : decode cX12_readPlanLine 91 = .ok (.iconst 1, 1) := by decide +kernel
theorem dX12_readPlanLine_92 : decode cX12_readPlanLine 92 = .ok (.isub, 1) := by decide +kernel
theorem dX12_readPlanLine_93 : decode cX12_readPlanLine 93 = .ok (.invokevirtual 260, 3) := by decide +kernel
theorem dX12_readPlanLine_96 : decode cX12_readPlanLine 96 = .ok (.iastore, 1) := by decide +kernel
theorem dX12_readPlanLine_97 : decode cX12_readPlanLine 97 = .ok (.aload_n 0, 1) := by decide +kernel
theorem dX12_readPlanLine_98 : decode cX12_readPlanLine 98 = .ok (.getfield 68, 3) := by decide +kernel
theorem dX12_readPlanLine_101 : decode cX12_readPlanLine 101 = .ok (.iload_n 1, 1) := by decide +kernel
theorem dX12_readPlanLine_102 : decode cX12_readPlanLine 102 = .ok (.iconst 2, 1) := by decide +kernel
theorem dX12_readPlanLine_103 : decode cX12_readPlanLine 103 = .ok (.iadd, 1) := by decide +kernel
theorem dX12_readPlanLine_104 : decode cX12_readPlanLine 104 = .ok (.iaload, 1) := by decide +kernel
theorem dX12_readPlanLine_105 : decode cX12_readPlanLine 105 = .ok (.iconst (-1), 1) := by decide +kernel
theorem dX12_readPlanLine_106 : decode cX12_readPlanLine 106 = .ok (.if_icmp .ne 5, 3) := by decide +kernel
theorem dX12_readPlanLine_109 : decode cX12_readPlanLine 109 = .ok (.iconst (-1), 1) := by decide +kernel
theorem dX12_readPlanLine_110 : decode cX12_readPlanLine 110 = .ok (.ireturn, 1) := by decide +kernel
theorem dX12_readPlanLine_111 : decode cX12_readPlanLine 111 = .ok (.aload_n 0, 1) := by decide +kernel
theorem dX12_readPlanLine_112 : decode cX12_readPlanLine 112 = .ok (.getfield 68, 3) := by decide +kernel
theorem dX12_readPlanLine_115 : decode cX12_readPlanLine 115 = .ok (.iload_n 1, 1) := by decide +kernel
theorem dX12_readPlanLine_116 : decode cX12_readPlanLine 116 = .ok (.iconst 3, 1) := by decide +kernel
theorem dX12_readPlanLine_117 : decode cX12_readPlanLine 117 = .ok (.iadd, 1) := by decide +kernel
theorem dX12_readPlanLine_118 : decode cX12_readPlanLine 118 = .ok (.iconst 0, 1) := by decide +kernel
theorem dX12_readPlanLine_119 : decode cX12_readPlanLine 119 = .ok (.iastore, 1) := by decide +kernel
theorem dX12_readPlanLine_120 : decode cX12_readPlanLine 120 = .ok (.aload_n 0, 1) := by decide +kernel
theorem dX12_readPlanLine_121 : decode cX12_readPlanLine 121 = .ok (.getfield 68, 3) := by decide +kernel
theorem dX12_readPlanLine_124 : decode cX12_readPlanLine 124 = .ok (.iload_n 1, 1) := by decide +kernel
theorem dX12_readPlanLine_125 : decode cX12_readPlanLine 125 = .ok (.iconst 4, 1) := by decide +kernel
theorem dX12_readPlanLine_126 : decode cX12_readPlanLine 126 = .ok (.iadd, 1) := by decide +kernel
theorem dX12_readPlanLine_127 : decode cX12_readPlanLine 127 = .ok (.iconst 0, 1) := by decide +kernel
theorem dX12_readPlanLine_128 : decode cX12_readPlanLine 128 = .ok (.iastore, 1) := by decide +kernel
theorem dX12_readPlanLine_129 : decode cX12_readPlanLine 129 = .ok (.aload_n 0, 1) := by decide +kernel
theorem dX12_readPlanLine_130 : decode cX12_readPlanLine 130 = .ok (.iload_n 1, 1) := by decide +kernel
theorem dX12_readPlanLine_131 : decode cX12_readPlanLine 131 = .ok (.invokevirtual 279, 3) := by decide +kernel
theorem dX12_readPlanLine_134 : decode cX12_readPlanLine 134 = .ok (.iconst (-1), 1) := by decide +kernel
theorem dX12_readPlanLine_135 : decode cX12_readPlanLine 135 = .ok (.if_icmp .ne 7, 3) := by decide +kernel
theorem dX12_readPlanLine_138 : decode cX12_readPlanLine 138 = .ok (.iconst (-1), 1) := by decide +kernel
theorem dX12_readPlanLine_139 : decode cX12_readPlanLine 139 = .ok (.goto 9, 3) := by decide +kernel
theorem dX12_readPlanLine_142 : decode cX12_readPlanLine 142 = .ok (.aload_n 0, 1) := by decide +kernel
theorem dX12_readPlanLine_143 : decode cX12_readPlanLine 143 = .ok (.bipush 59, 2) := by decide +kernel
theorem dX12_readPlanLine_145 : decode cX12_readPlanLine 145 = .ok (.invokevirtual 266, 3) := by decide +kernel
theorem dX12_readPlanLine_148 : decode cX12_readPlanLine 148 = .ok (.ireturn, 1) := by decide +kernel
theorem dX12_readPlan_0 : decode cX12_readPlan 0 = .ok (.iconst 0, 1) := by decide +kernel
theorem dX12_readPlan_1 : decode cX12_readPlan 1 = .ok (.istore_n 1, 1) := by decide +kernel
theorem dX12_readPlan_2 : decode cX12_readPlan 2 = .ok (.aload_n 0, 1) := by decide +kernel
theorem dX12_readPlan_3 : decode cX12_readPlan 3 = .ok (.bipush 21, 2) := by decide +kernel
theorem dX12_readPlan_5 : decode cX12_readPlan 5 = .ok (.invokevirtual 235, 3) := by decide +kernel
theorem dX12_readPlan_8 : decode cX12_readPlan 8 = .ok (.ifCond .eq 38, 3) := by decide +kernel
theorem dX12_readPlan_11 : decode cX12_readPlan 11 = .ok (.iload_n 1, 1) := by decide +kernel
theorem dX12_readPlan_12 : decode cX12_readPlan 12 = .ok (.bipush 16, 2) := by decide +kernel
theorem dX12_readPlan_14 : decode cX12_readPlan 14 = .ok (.if_icmp .ne 9, 3) := by decide +kernel
theorem dX12_readPlan_17 : decode cX12_readPlan 17 = .ok (.aload_n 0, 1) := by decide +kernel
theorem dX12_readPlan_18 : decode cX12_readPlan 18 = .ok (.iconst 3, 1) := by decide +kernel
theorem dX12_readPlan_19 : decode cX12_readPlan 19 = .ok (.invokevirtual 206, 3) := by decide +kernel
theorem dX12_readPlan_22 : decode cX12_readPlan 22 = .ok (.ireturn, 1) := by decide +kernel
theorem dX12_readPlan_23 : decode cX12_readPlan 23 = .ok (.aload_n 0, 1) := by decide +kernel
theorem dX12_readPlan_24 : decode cX12_readPlan 24 = .ok (.bipush 80, 2) := by decide +kernel
theorem dX12_readPlan_26 : decode cX12_readPlan 26 = .ok (.iconst 5, 1) := by decide +kernel
theorem dX12_readPlan_27 : decode cX12_readPlan 27 = .ok (.iload_n 1, 1) := by decide +kernel
theorem dX12_readPlan_28 : decode cX12_readPlan 28 = .ok (.imul, 1) := by decide +kernel
theorem dX12_readPlan_29 : decode cX12_readPlan 29 = .ok (.iadd, 1) := by decide +kernel
theorem dX12_readPlan_30 : decode cX12_readPlan 30 = .ok (.invokevirtual 282, 3) := by decide +kernel
theorem dX12_readPlan_33 : decode cX12_readPlan 33 = .ok (.iconst (-1), 1) := by decide +kernel
theorem dX12_readPlan_34 : decode cX12_readPlan 34 = .ok (.if_icmp .ne 5, 3) := by decide +kernel
theorem dX12_readPlan_37 : decode cX12_readPlan 37 = .ok (.iconst (-1), 1) := by decide +kernel
theorem dX12_readPlan_38 : decode cX12_readPlan 38 = .ok (.ireturn, 1) := by decide +kernel
theorem dX12_readPlan_39 : decode cX12_readPlan 39 = .ok (.iload_n 1, 1) := by decide +kernel
theorem dX12_readPlan_40 : decode cX12_readPlan 40 = .ok (.iconst 1, 1) := by decide +kernel
theorem dX12_readPlan_41 : decode cX12_readPlan 41 = .ok (.iadd, 1) := by decide +kernel
theorem dX12_readPlan_42 : decode cX12_readPlan 42 = .ok (.istore_n 1, 1) := by decide +kernel
theorem dX12_readPlan_43 : decode cX12_readPlan 43 = .ok (.goto (-41), 3) := by decide +kernel
theorem dX12_readPlan_46 : decode cX12_readPlan 46 = .ok (.aload_n 0, 1) := by decide +kernel
theorem dX12_readPlan_47 : decode cX12_readPlan 47 = .ok (.getfield 176, 3) := by decide +kernel
theorem dX12_readPlan_50 : decode cX12_readPlan 50 = .ok (.ifCond .ne 7, 3) := by decide +kernel
theorem dX12_readPlan_53 : decode cX12_readPlan 53 = .ok (.iload_n 1, 1) := by decide +kernel
theorem dX12_readPlan_54 : decode cX12_readPlan 54 = .ok (.goto 8, 3) := by decide +kernel
theorem dX12_readPlan_57 : decode cX12_readPlan 57 = .ok (.aload_n 0, 1) := by decide +kernel
theorem dX12_readPlan_58 : decode cX12_readPlan 58 = .ok (.iconst 1, 1) := by decide +kernel
theorem dX12_readPlan_59 : decode cX12_readPlan 59 = .ok (.invokevirtual 206, 3) := by decide +kernel
theorem dX12_readPlan_62 : decode cX12_readPlan 62 = .ok (.ireturn, 1) := by decide +kernel
theorem dX12_readsText_0 : decode cX12_readsText 0 = .ok (.aload_n 0, 1) := by decide +kernel
theorem dX12_readsText_1 : decode cX12_readsText 1 = .ok (.iload_n 1, 1) := by decide +kernel
theorem dX12_readsText_2 : decode cX12_readsText 2 = .ok (.putfield 254, 3) := by decide +kernel
theorem dX12_readsText_5 : decode cX12_readsText 5 = .ok (.aload_n 0, 1) := by decide +kernel
theorem dX12_readsText_6 : decode cX12_readsText 6 = .ok (.invokevirtual 213, 3) := by decide +kernel
theorem dX12_readsText_9 : decode cX12_readsText 9 = .ok (.iload_n 1, 1) := by decide +kernel
theorem dX12_readsText_10 : decode cX12_readsText 10 = .ok (.ifCond .ne 8, 3) := by decide +kernel
theorem dX12_readsText_13 : decode cX12_readsText 13 = .ok (.aload_n 0, 1) := by decide +kernel
theorem dX12_readsText_14 : decode cX12_readsText 14 = .ok (.invokevirtual 285, 3) := by decide +kernel
theorem dX12_readsText_17 : decode cX12_readsText 17 = .ok (.ireturn, 1) := by decide +kernel
theorem dX12_readsText_18 : decode cX12_readsText 18 = .ok (.iload_n 1, 1) := by decide +kernel
theorem dX12_readsText_19 : decode cX12_readsText 19 = .ok (.iconst 2, 1) := by decide +kernel
theorem dX12_readsText_20 : decode cX12_readsText 20 = .ok (.if_icmp .ne 8, 3) := by decide +kernel
theorem dX12_readsText_23 : decode cX12_readsText 23 = .ok (.aload_n 0, 1) := by decide +kernel
theorem dX12_readsText_24 : decode cX12_readsText 24 = .ok (.invokevirtual 288, 3) := by decide +kernel
theorem dX12_readsText_27 : decode cX12_readsText 27 = .ok (.ireturn, 1) := by decide +kernel
theorem dX12_readsText_28 : decode cX12_readsText 28 = .ok (.iload_n 1, 1) := by decide +kernel
theorem dX12_readsText_29 : decode cX12_readsText 29 = .ok (.iconst 3, 1) := by decide +kernel
theorem dX12_readsText_30 : decode cX12_readsText 30 = .ok (.if_icmp .ne 10, 3) := by decide +kernel
theorem dX12_readsText_33 : decode cX12_readsText 33 = .ok (.aload_n 0, 1) := by decide +kernel
theorem dX12_readsText_34 : decode cX12_readsText 34 = .ok (.invokevirtual 291, 3) := by decide +kernel
theorem dX12_readsText_37 : decode cX12_readsText 37 = .ok (.goto 7, 3) := by decide +kernel
theorem dX12_readsText_40 : decode cX12_readsText 40 = .ok (.aload_n 0, 1) := by decide +kernel
theorem dX12_readsText_41 : decode cX12_readsText 41 = .ok (.invokevirtual 294, 3) := by decide +kernel
theorem dX12_readsText_44 : decode cX12_readsText 44 = .ok (.ireturn, 1) := by decide +kernel
theorem dX12_takesOther_0 : decode cX12_takesOther 0 = .ok (.iload_n 1, 1) := by decide +kernel
theorem dX12_takesOther_1 : decode cX12_takesOther 1 = .ok (.ifCond .ne 38, 3) := by decide +kernel
theorem dX12_takesOther_4 : decode cX12_takesOther 4 = .ok (.iconst 0, 1) := by decide +kernel
theorem dX12_takesOther_5 : decode cX12_takesOther 5 = .ok (.istore_n 3, 1) := by decide +kernel
theorem dX12_takesOther_6 : decode cX12_takesOther 6 = .ok (.iload_n 3, 1) := by decide +kernel
theorem dX12_takesOther_7 : decode cX12_takesOther 7 = .ok (.iconst 3, 1) := by decide +kernel
theorem dX12_takesOther_8 : decode cX12_takesOther 8 = .ok (.iload_n 2, 1) := by decide +kernel
theorem dX12_takesOther_9 : decode cX12_takesOther 9 = .ok (.imul, 1) := by decide +kernel
theorem dX12_takesOther_10 : decode cX12_takesOther 10 = .ok (.if_icmp .ge 24, 3) := by decide +kernel
theorem dX12_takesOther_13 : decode cX12_takesOther 13 = .ok (.aload_n 0, 1) := by decide +kernel
theorem dX12_takesOther_14 : decode cX12_takesOther 14 = .ok (.getfield 62, 3) := by decide +kernel
theorem dX12_takesOther_17 : decode cX12_takesOther 17 = .ok (.iload_n 3, 1) := by decide +kernel
theorem dX12_takesOther_18 : decode cX12_takesOther 18 = .ok (.aload_n 0, 1) := by decide +kernel
theorem dX12_takesOther_19 : decode cX12_takesOther 19 = .ok (.getfield 62, 3) := by decide +kernel
theorem dX12_takesOther_22 : decode cX12_takesOther 22 = .ok (.bipush 48, 2) := by decide +kernel
theorem dX12_takesOther_24 : decode cX12_takesOther 24 = .ok (.iload_n 3, 1) := by decide +kernel
theorem dX12_takesOther_25 : decode cX12_takesOther 25 = .ok (.iadd, 1) := by decide +kernel
theorem dX12_takesOther_26 : decode cX12_takesOther 26 = .ok (.iaload, 1) := by decide +kernel
theorem dX12_takesOther_27 : decode cX12_takesOther 27 = .ok (.iastore, 1) := by decide +kernel
theorem dX12_takesOther_28 : decode cX12_takesOther 28 = .ok (.iinc 3 1, 3) := by decide +kernel
theorem dX12_takesOther_31 : decode cX12_takesOther 31 = .ok (.goto (-25), 3) := by decide +kernel
theorem dX12_takesOther_34 : decode cX12_takesOther 34 = .ok (.aload_n 0, 1) := by decide +kernel
theorem dX12_takesOther_35 : decode cX12_takesOther 35 = .ok (.iload_n 2, 1) := by decide +kernel
theorem dX12_takesOther_36 : decode cX12_takesOther 36 = .ok (.putfield 297, 3) := by decide +kernel
theorem dX12_takesOther_39 : decode cX12_takesOther 39 = .ok (.iload_n 1, 1) := by decide +kernel
theorem dX12_takesOther_40 : decode cX12_takesOther 40 = .ok (.iconst 3, 1) := by decide +kernel
theorem dX12_takesOther_41 : decode cX12_takesOther 41 = .ok (.if_icmp .ne 38, 3) := by decide +kernel
theorem dX12_takesOther_44 : decode cX12_takesOther 44 = .ok (.iconst 0, 1) := by decide +kernel
theorem dX12_takesOther_45 : decode cX12_takesOther 45 = .ok (.istore_n 3, 1) := by decide +kernel
theorem dX12_takesOther_46 : decode cX12_takesOther 46 = .ok (.iload_n 3, 1) := by decide +kernel
theorem dX12_takesOther_47 : decode cX12_takesOther 47 = .ok (.iconst 5, 1) := by decide +kernel
theorem dX12_takesOther_48 : decode cX12_takesOther 48 = .ok (.iload_n 2, 1) := by decide +kernel
theorem dX12_takesOther_49 : decode cX12_takesOther 49 = .ok (.imul, 1) := by decide +kernel
theorem dX12_takesOther_50 : decode cX12_takesOther 50 = .ok (.if_icmp .ge 24, 3) := by decide +kernel
theorem dX12_takesOther_53 : decode cX12_takesOther 53 = .ok (.aload_n 0, 1) := by decide +kernel
theorem dX12_takesOther_54 : decode cX12_takesOther 54 = .ok (.getfield 68, 3) := by decide +kernel
theorem dX12_takesOther_57 : decode cX12_takesOther 57 = .ok (.iload_n 3, 1) := by decide +kernel
theorem dX12_takesOther_58 : decode cX12_takesOther 58 = .ok (.aload_n 0, 1) := by decide +kernel
theorem dX12_takesOther_59 : decode cX12_takesOther 59 = .ok (.getfield 68, 3) := by decide +kernel
theorem dX12_takesOther_62 : decode cX12_takesOther 62 = .ok (.bipush 80, 2) := by decide +kernel
theorem dX12_takesOther_64 : decode cX12_takesOther 64 = .ok (.iload_n 3, 1) := by decide +kernel
theorem dX12_takesOther_65 : decode cX12_takesOther 65 = .ok (.iadd, 1) := by decide +kernel
theorem dX12_takesOther_66 : decode cX12_takesOther 66 = .ok (.iaload, 1) := by decide +kernel
theorem dX12_takesOther_67 : decode cX12_takesOther 67 = .ok (.iastore, 1) := by decide +kernel
theorem dX12_takesOther_68 : decode cX12_takesOther 68 = .ok (.iinc 3 1, 3) := by decide +kernel
theorem dX12_takesOther_71 : decode cX12_takesOther 71 = .ok (.goto (-25), 3) := by decide +kernel
theorem dX12_takesOther_74 : decode cX12_takesOther 74 = .ok (.aload_n 0, 1) := by decide +kernel
theorem dX12_takesOther_75 : decode cX12_takesOther 75 = .ok (.iload_n 2, 1) := by decide +kernel
theorem dX12_takesOther_76 : decode cX12_takesOther 76 = .ok (.putfield 300, 3) := by decide +kernel
theorem dX12_takesOther_79 : decode cX12_takesOther 79 = .ok (.iload_n 1, 1) := by decide +kernel
theorem dX12_takesOther_80 : decode cX12_takesOther 80 = .ok (.iconst 2, 1) := by decide +kernel
theorem dX12_takesOther_81 : decode cX12_takesOther 81 = .ok (.if_icmp .ne 41, 3) := by decide +kernel
theorem dX12_takesOther_84 : decode cX12_takesOther 84 = .ok (.iconst 0, 1) := by decide +kernel
theorem dX12_takesOther_85 : decode cX12_takesOther 85 = .ok (.istore_n 3, 1) := by decide +kernel
theorem dX12_takesOther_86 : decode cX12_takesOther 86 = .ok (.iload_n 3, 1) := by decide +kernel
theorem dX12_takesOther_87 : decode cX12_takesOther 87 = .ok (.iconst 3, 1) := by decide +kernel
theorem dX12_takesOther_88 : decode cX12_takesOther 88 = .ok (.iload_n 2, 1) := by decide +kernel
theorem dX12_takesOther_89 : decode cX12_takesOther 89 = .ok (.imul, 1) := by decide +kernel
theorem dX12_takesOther_90 : decode cX12_takesOther 90 = .ok (.if_icmp .ge 24, 3) := by decide +kernel
theorem dX12_takesOther_93 : decode cX12_takesOther 93 = .ok (.aload_n 0, 1) := by decide +kernel
theorem dX12_takesOther_94 : decode cX12_takesOther 94 = .ok (.getfield 65, 3) := by decide +kernel
theorem dX12_takesOther_97 : decode cX12_takesOther 97 = .ok (.iload_n 3, 1) := by decide +kernel
theorem dX12_takesOther_98 : decode cX12_takesOther 98 = .ok (.aload_n 0, 1) := by decide +kernel
theorem dX12_takesOther_99 : decode cX12_takesOther 99 = .ok (.getfield 65, 3) := by decide +kernel
theorem dX12_takesOther_102 : decode cX12_takesOther 102 = .ok (.bipush 36, 2) := by decide +kernel
theorem dX12_takesOther_104 : decode cX12_takesOther 104 = .ok (.iload_n 3, 1) := by decide +kernel
theorem dX12_takesOther_105 : decode cX12_takesOther 105 = .ok (.iadd, 1) := by decide +kernel
theorem dX12_takesOther_106 : decode cX12_takesOther 106 = .ok (.iaload, 1) := by decide +kernel
theorem dX12_takesOther_107 : decode cX12_takesOther 107 = .ok (.iastore, 1) := by decide +kernel
theorem dX12_takesOther_108 : decode cX12_takesOther 108 = .ok (.iinc 3 1, 3) := by decide +kernel
theorem dX12_takesOther_111 : decode cX12_takesOther 111 = .ok (.goto (-25), 3) := by decide +kernel
theorem dX12_takesOther_114 : decode cX12_takesOther 114 = .ok (.aload_n 0, 1) := by decide +kernel
theorem dX12_takesOther_115 : decode cX12_takesOther 115 = .ok (.iload_n 2, 1) := by decide +kernel
theorem dX12_takesOther_116 : decode cX12_takesOther 116 = .ok (.putfield 303, 3) := by decide +kernel
theorem dX12_takesOther_119 : decode cX12_takesOther 119 = .ok (.goto 8, 3) := by decide +kernel
theorem dX12_takesOther_122 : decode cX12_takesOther 122 = .ok (.aload_n 0, 1) := by decide +kernel
theorem dX12_takesOther_123 : decode cX12_takesOther 123 = .ok (.iconst 0, 1) := by decide +kernel
theorem dX12_takesOther_124 : decode cX12_takesOther 124 = .ok (.putfield 116, 3) := by decide +kernel
theorem dX12_takesOther_127 : decode cX12_takesOther 127 = .ok (.return_, 1) := by decide +kernel
theorem dX12_text_0 : decode cX12_text 0 = .ok (.aload_n 0, 1) := by decide +kernel
theorem dX12_text_1 : decode cX12_text 1 = .ok (.iconst 0, 1) := by decide +kernel
theorem dX12_text_2 : decode cX12_text 2 = .ok (.putfield 113, 3) := by decide +kernel
theorem dX12_text_5 : decode cX12_text 5 = .ok (.aload_n 0, 1) := by decide +kernel
theorem dX12_text_6 : decode cX12_text 6 = .ok (.iconst 0, 1) := by decide +kernel
theorem dX12_text_7 : decode cX12_text 7 = .ok (.putfield 306, 3) := by decide +kernel
theorem dX12_text_10 : decode cX12_text 10 = .ok (.aload_n 0, 1) := by decide +kernel
theorem dX12_text_11 : decode cX12_text 11 = .ok (.iconst (-1), 1) := by decide +kernel
theorem dX12_text_12 : decode cX12_text 12 = .ok (.putfield 58, 3) := by decide +kernel
theorem dX12_text_15 : decode cX12_text 15 = .ok (.aload_n 0, 1) := by decide +kernel
theorem dX12_text_16 : decode cX12_text 16 = .ok (.iconst 0, 1) := by decide +kernel
theorem dX12_text_17 : decode cX12_text 17 = .ok (.putfield 166, 3) := by decide +kernel
theorem dX12_text_20 : decode cX12_text 20 = .ok (.aload_n 0, 1) := by decide +kernel
theorem dX12_text_21 : decode cX12_text 21 = .ok (.iconst 0, 1) := by decide +kernel
theorem dX12_text_22 : decode cX12_text 22 = .ok (.putfield 200, 3) := by decide +kernel
theorem dX12_text_25 : decode cX12_text 25 = .ok (.aload_n 0, 1) := by decide +kernel
theorem dX12_text_26 : decode cX12_text 26 = .ok (.iconst 0, 1) := by decide +kernel
theorem dX12_text_27 : decode cX12_text 27 = .ok (.putfield 232, 3) := by decide +kernel
theorem dX12_text_30 : decode cX12_text 30 = .ok (.iconst (-1), 1) := by decide +kernel
theorem dX12_text_31 : decode cX12_text 31 = .ok (.istore_n 2, 1) := by decide +kernel
theorem dX12_text_32 : decode cX12_text 32 = .ok (.aload_n 0, 1) := by decide +kernel
theorem dX12_text_33 : decode cX12_text 33 = .ok (.iload_n 1, 1) := by decide +kernel
theorem dX12_text_34 : decode cX12_text 34 = .ok (.iconst 0, 1) := by decide +kernel
theorem dX12_text_35 : decode cX12_text 35 = .ok (.iconst 3, 1) := by decide +kernel
theorem dX12_text_36 : decode cX12_text 36 = .ok (.invokevirtual 142, 3) := by decide +kernel
theorem dX12_text_39 : decode cX12_text 39 = .ok (.ifCond .eq 30, 3) := by decide +kernel
theorem dX12_text_42 : decode cX12_text 42 = .ok (.aload_n 0, 1) := by decide +kernel
theorem dX12_text_43 : decode cX12_text 43 = .ok (.iload_n 1, 1) := by decide +kernel
theorem dX12_text_44 : decode cX12_text 44 = .ok (.invokevirtual 309, 3) := by decide +kernel
theorem dX12_text_47 : decode cX12_text 47 = .ok (.istore_n 2, 1) := by decide +kernel
theorem dX12_text_48 : decode cX12_text 48 = .ok (.iload_n 2, 1) := by decide +kernel
theorem dX12_text_49 : decode cX12_text 49 = .ok (.iconst (-1), 1) := by decide +kernel
theorem dX12_text_50 : decode cX12_text 50 = .ok (.if_icmp .ne 19, 3) := by decide +kernel
theorem dX12_text_53 : decode cX12_text 53 = .ok (.aload_n 0, 1) := by decide +kernel
theorem dX12_text_54 : decode cX12_text 54 = .ok (.aload_n 0, 1) := by decide +kernel
theorem dX12_text_55 : decode cX12_text 55 = .ok (.getfield 194, 3) := by decide +kernel
theorem dX12_text_58 : decode cX12_text 58 = .ok (.putfield 306, 3) := by decide +kernel
theorem dX12_text_61 : decode cX12_text 61 = .ok (.aload_n 0, 1) := by decide +kernel
theorem dX12_text_62 : decode cX12_text 62 = .ok (.aload_n 0, 1) := by decide +kernel
theorem dX12_text_63 : decode cX12_text 63 = .ok (.getfield 197, 3) := by decide +kernel
theorem dX12_text_66 : decode cX12_text 66 = .ok (.putfield 58, 3) := by decide +kernel
theorem dX12_text_69 : decode cX12_text 69 = .ok (.aload_n 0, 1) := by decide +kernel
theorem dX12_text_70 : decode cX12_text 70 = .ok (.iconst 0, 1) := by decide +kernel
theorem dX12_text_71 : decode cX12_text 71 = .ok (.putfield 159, 3) := by decide +kernel
theorem dX12_text_74 : decode cX12_text 74 = .ok (.iload_n 2, 1) := by decide +kernel
theorem dX12_text_75 : decode cX12_text 75 = .ok (.iconst (-1), 1) := by decide +kernel
theorem dX12_text_76 : decode cX12_text 76 = .ok (.if_icmp .ne 5, 3) := by decide +kernel
theorem dX12_text_79 : decode cX12_text 79 = .ok (.iconst (-1), 1) := by decide +kernel
theorem dX12_text_80 : decode cX12_text 80 = .ok (.ireturn, 1) := by decide +kernel
theorem dX12_text_81 : decode cX12_text 81 = .ok (.iload_n 1, 1) := by decide +kernel
theorem dX12_text_82 : decode cX12_text 82 = .ok (.iconst 1, 1) := by decide +kernel
theorem dX12_text_83 : decode cX12_text 83 = .ok (.if_icmp .ne 11, 3) := by decide +kernel
theorem dX12_text_86 : decode cX12_text 86 = .ok (.aload_n 0, 1) := by decide +kernel
theorem dX12_text_87 : decode cX12_text 87 = .ok (.iload_n 2, 1) := by decide +kernel
theorem dX12_text_88 : decode cX12_text 88 = .ok (.invokevirtual 312, 3) := by decide +kernel
theorem dX12_text_91 : decode cX12_text 91 = .ok (.goto 9, 3) := by decide +kernel
theorem dX12_text_94 : decode cX12_text 94 = .ok (.aload_n 0, 1) := by decide +kernel
theorem dX12_text_95 : decode cX12_text 95 = .ok (.iload_n 1, 1) := by decide +kernel
theorem dX12_text_96 : decode cX12_text 96 = .ok (.iload_n 2, 1) := by decide +kernel
theorem dX12_text_97 : decode cX12_text 97 = .ok (.invokevirtual 315, 3) := by decide +kernel
theorem dX12_text_100 : decode cX12_text 100 = .ok (.iload_n 2, 1) := by decide +kernel
theorem dX12_text_101 : decode cX12_text 101 = .ok (.ireturn, 1) := by decide +kernel
theorem dX12_fault_0 : decode cX12_fault 0 = .ok (.aload_n 0, 1) := by decide +kernel
theorem dX12_fault_1 : decode cX12_fault 1 = .ok (.iconst 0, 1) := by decide +kernel
theorem dX12_fault_2 : decode cX12_fault 2 = .ok (.putfield 113, 3) := by decide +kernel
theorem dX12_fault_5 : decode cX12_fault 5 = .ok (.iload_n 1, 1) := by decide +kernel
theorem dX12_fault_6 : decode cX12_fault 6 = .ok (.ifCond .ne 10, 3) := by decide +kernel
theorem dX12_fault_9 : decode cX12_fault 9 = .ok (.aload_n 0, 1) := by decide +kernel
theorem dX12_fault_10 : decode cX12_fault 10 = .ok (.getfield 306, 3) := by decide +kernel
theorem dX12_fault_13 : decode cX12_fault 13 = .ok (.goto 16, 3) := by decide +kernel
theorem dX12_fault_16 : decode cX12_fault 16 = .ok (.iload_n 1, 1) := by decide +kernel
theorem dX12_fault_17 : decode cX12_fault 17 = .ok (.iconst 1, 1) := by decide +kernel
theorem dX12_fault_18 : decode cX12_fault 18 = .ok (.if_icmp .ne 10, 3) := by decide +kernel
theorem dX12_fault_21 : decode cX12_fault 21 = .ok (.aload_n 0, 1) := by decide +kernel
theorem dX12_fault_22 : decode cX12_fault 22 = .ok (.getfield 58, 3) := by decide +kernel
theorem dX12_fault_25 : decode cX12_fault 25 = .ok (.goto 4, 3) := by decide +kernel
theorem dX12_fault_28 : decode cX12_fault 28 = .ok (.iconst (-1), 1) := by decide +kernel
theorem dX12_fault_29 : decode cX12_fault 29 = .ok (.ireturn, 1) := by decide +kernel
theorem dX12_twoOf_0 : decode cX12_twoOf 0 = .ok (.iload_n 1, 1) := by decide +kernel
theorem dX12_twoOf_1 : decode cX12_twoOf 1 = .ok (.iconst 2, 1) := by decide +kernel
theorem dX12_twoOf_2 : decode cX12_twoOf 2 = .ok (.if_icmp .ne 7, 3) := by decide +kernel
theorem dX12_twoOf_5 : decode cX12_twoOf 5 = .ok (.iload_n 2, 1) := by decide +kernel
theorem dX12_twoOf_6 : decode cX12_twoOf 6 = .ok (.iload_n 3, 1) := by decide +kernel
theorem dX12_twoOf_7 : decode cX12_twoOf 7 = .ok (.iadd, 1) := by decide +kernel
theorem dX12_twoOf_8 : decode cX12_twoOf 8 = .ok (.ireturn, 1) := by decide +kernel
theorem dX12_twoOf_9 : decode cX12_twoOf 9 = .ok (.iload_n 1, 1) := by decide +kernel
theorem dX12_twoOf_10 : decode cX12_twoOf 10 = .ok (.iconst 3, 1) := by decide +kernel
theorem dX12_twoOf_11 : decode cX12_twoOf 11 = .ok (.if_icmp .ne 7, 3) := by decide +kernel
theorem dX12_twoOf_14 : decode cX12_twoOf 14 = .ok (.iload_n 2, 1) := by decide +kernel
theorem dX12_twoOf_15 : decode cX12_twoOf 15 = .ok (.iload_n 3, 1) := by decide +kernel
theorem dX12_twoOf_16 : decode cX12_twoOf 16 = .ok (.isub, 1) := by decide +kernel
theorem dX12_twoOf_17 : decode cX12_twoOf 17 = .ok (.ireturn, 1) := by decide +kernel
theorem dX12_twoOf_18 : decode cX12_twoOf 18 = .ok (.iload_n 1, 1) := by decide +kernel
theorem dX12_twoOf_19 : decode cX12_twoOf 19 = .ok (.iconst 4, 1) := by decide +kernel
theorem dX12_twoOf_20 : decode cX12_twoOf 20 = .ok (.if_icmp .ne 7, 3) := by decide +kernel
theorem dX12_twoOf_23 : decode cX12_twoOf 23 = .ok (.iload_n 2, 1) := by decide +kernel
theorem dX12_twoOf_24 : decode cX12_twoOf 24 = .ok (.iload_n 3, 1) := by decide +kernel
theorem dX12_twoOf_25 : decode cX12_twoOf 25 = .ok (.imul, 1) := by decide +kernel
theorem dX12_twoOf_26 : decode cX12_twoOf 26 = .ok (.ireturn, 1) := by decide +kernel
theorem dX12_twoOf_27 : decode cX12_twoOf 27 = .ok (.iload_n 1, 1) := by decide +kernel
theorem dX12_twoOf_28 : decode cX12_twoOf 28 = .ok (.iconst 5, 1) := by decide +kernel
theorem dX12_twoOf_29 : decode cX12_twoOf 29 = .ok (.if_icmp .ne 7, 3) := by decide +kernel
theorem dX12_twoOf_32 : decode cX12_twoOf 32 = .ok (.iload_n 2, 1) := by decide +kernel
theorem dX12_twoOf_33 : decode cX12_twoOf 33 = .ok (.iload_n 3, 1) := by decide +kernel
theorem dX12_twoOf_34 : decode cX12_twoOf 34 = .ok (.idiv, 1) := by decide +kernel
theorem dX12_twoOf_35 : decode cX12_twoOf 35 = .ok (.ireturn, 1) := by decide +kernel
theorem dX12_twoOf_36 : decode cX12_twoOf 36 = .ok (.iload_n 1, 1) := by decide +kernel
theorem dX12_twoOf_37 : decode cX12_twoOf 37 = .ok (.bipush 6, 2) := by decide +kernel
theorem dX12_twoOf_39 : decode cX12_twoOf 39 = .ok (.if_icmp .ne 14, 3) := by decide +kernel
theorem dX12_twoOf_42 : decode cX12_twoOf 42 = .ok (.iload_n 2, 1) := by decide +kernel
theorem dX12_twoOf_43 : decode cX12_twoOf 43 = .ok (.iload_n 3, 1) := by decide +kernel
theorem dX12_twoOf_44 : decode cX12_twoOf 44 = .ok (.if_icmp .ge 7, 3) := by decide +kernel
theorem dX12_twoOf_47 : decode cX12_twoOf 47 = .ok (.iconst 1, 1) := by decide +kernel
theorem dX12_twoOf_48 : decode cX12_twoOf 48 = .ok (.goto 4, 3) := by decide +kernel
theorem dX12_twoOf_51 : decode cX12_twoOf 51 = .ok (.iconst 0, 1) := by decide +kernel
theorem dX12_twoOf_52 : decode cX12_twoOf 52 = .ok (.ireturn, 1) := by decide +kernel
theorem dX12_twoOf_53 : decode cX12_twoOf 53 = .ok (.iload_n 1, 1) := by decide +kernel
theorem dX12_twoOf_54 : decode cX12_twoOf 54 = .ok (.bipush 7, 2) := by decide +kernel
theorem dX12_twoOf_56 : decode cX12_twoOf 56 = .ok (.if_icmp .ne 14, 3) := by decide +kernel
theorem dX12_twoOf_59 : decode cX12_twoOf 59 = .ok (.iload_n 2, 1) := by decide +kernel
theorem dX12_twoOf_60 : decode cX12_twoOf 60 = .ok (.iload_n 3, 1) := by decide +kernel
theorem dX12_twoOf_61 : decode cX12_twoOf 61 = .ok (.if_icmp .ne 7, 3) := by decide +kernel
theorem dX12_twoOf_64 : decode cX12_twoOf 64 = .ok (.iconst 1, 1) := by decide +kernel
theorem dX12_twoOf_65 : decode cX12_twoOf 65 = .ok (.goto 4, 3) := by decide +kernel
theorem dX12_twoOf_68 : decode cX12_twoOf 68 = .ok (.iconst 0, 1) := by decide +kernel
theorem dX12_twoOf_69 : decode cX12_twoOf 69 = .ok (.ireturn, 1) := by decide +kernel
theorem dX12_twoOf_70 : decode cX12_twoOf 70 = .ok (.iload_n 1, 1) := by decide +kernel
theorem dX12_twoOf_71 : decode cX12_twoOf 71 = .ok (.bipush 8, 2) := by decide +kernel
theorem dX12_twoOf_73 : decode cX12_twoOf 73 = .ok (.if_icmp .ne 14, 3) := by decide +kernel
theorem dX12_twoOf_76 : decode cX12_twoOf 76 = .ok (.iload_n 2, 1) := by decide +kernel
theorem dX12_twoOf_77 : decode cX12_twoOf 77 = .ok (.iload_n 3, 1) := by decide +kernel
theorem dX12_twoOf_78 : decode cX12_twoOf 78 = .ok (.if_icmp .le 7, 3) := by decide +kernel
theorem dX12_twoOf_81 : decode cX12_twoOf 81 = .ok (.iconst 1, 1) := by decide +kernel
theorem dX12_twoOf_82 : decode cX12_twoOf 82 = .ok (.goto 4, 3) := by decide +kernel
theorem dX12_twoOf_85 : decode cX12_twoOf 85 = .ok (.iconst 0, 1) := by decide +kernel
theorem dX12_twoOf_86 : decode cX12_twoOf 86 = .ok (.ireturn, 1) := by decide +kernel
theorem dX12_twoOf_87 : decode cX12_twoOf 87 = .ok (.iload_n 1, 1) := by decide +kernel
theorem dX12_twoOf_88 : decode cX12_twoOf 88 = .ok (.bipush 10, 2) := by decide +kernel
theorem dX12_twoOf_90 : decode cX12_twoOf 90 = .ok (.if_icmp .ne 9, 3) := by decide +kernel
theorem dX12_twoOf_93 : decode cX12_twoOf 93 = .ok (.iload_n 2, 1) := by decide +kernel
theorem dX12_twoOf_94 : decode cX12_twoOf 94 = .ok (.iload_n 3, 1) := by decide +kernel
theorem dX12_twoOf_95 : decode cX12_twoOf 95 = .ok (.imul, 1) := by decide +kernel
theorem dX12_twoOf_96 : decode cX12_twoOf 96 = .ok (.goto 14, 3) := by decide +kernel
theorem dX12_twoOf_99 : decode cX12_twoOf 99 = .ok (.iload_n 2, 1) := by decide +kernel
theorem dX12_twoOf_100 : decode cX12_twoOf 100 = .ok (.iload_n 3, 1) := by decide +kernel
theorem dX12_twoOf_101 : decode cX12_twoOf 101 = .ok (.iadd, 1) := by decide +kernel
theorem dX12_twoOf_102 : decode cX12_twoOf 102 = .ok (.ifCond .le 7, 3) := by decide +kernel
theorem dX12_twoOf_105 : decode cX12_twoOf 105 = .ok (.iconst 1, 1) := by decide +kernel
theorem dX12_twoOf_106 : decode cX12_twoOf 106 = .ok (.goto 4, 3) := by decide +kernel
theorem dX12_twoOf_109 : decode cX12_twoOf 109 = .ok (.iconst 0, 1) := by decide +kernel
theorem dX12_twoOf_110 : decode cX12_twoOf 110 = .ok (.ireturn, 1) := by decide +kernel
theorem dX12_runs_0 : decode cX12_runs 0 = .ok (.iconst 0, 1) := by decide +kernel
theorem dX12_runs_1 : decode cX12_runs 1 = .ok (.istore 4, 2) := by decide +kernel
theorem dX12_runs_3 : decode cX12_runs 3 = .ok (.sipush 400, 3) := by decide +kernel
theorem dX12_runs_6 : decode cX12_runs 6 = .ok (.iload_n 1, 1) := by decide +kernel
theorem dX12_runs_7 : decode cX12_runs 7 = .ok (.imul, 1) := by decide +kernel
theorem dX12_runs_8 : decode cX12_runs 8 = .ok (.iload_n 2, 1) := by decide +kernel
theorem dX12_runs_9 : decode cX12_runs 9 = .ok (.iadd, 1) := by decide +kernel
theorem dX12_runs_10 : decode cX12_runs 10 = .ok (.istore 5, 2) := by decide +kernel
theorem dX12_runs_12 : decode cX12_runs 12 = .ok (.iload 5, 2) := by decide +kernel
theorem dX12_runs_14 : decode cX12_runs 14 = .ok (.sipush 400, 3) := by decide +kernel
theorem dX12_runs_17 : decode cX12_runs 17 = .ok (.iload_n 1, 1) := by decide +kernel
theorem dX12_runs_18 : decode cX12_runs 18 = .ok (.imul, 1) := by decide +kernel
theorem dX12_runs_19 : decode cX12_runs 19 = .ok (.iload_n 3, 1) := by decide +kernel
theorem dX12_runs_20 : decode cX12_runs 20 = .ok (.iadd, 1) := by decide +kernel
theorem dX12_runs_21 : decode cX12_runs 21 = .ok (.if_icmp .ge 155, 3) := by decide +kernel
theorem dX12_runs_24 : decode cX12_runs 24 = .ok (.aload_n 0, 1) := by decide +kernel
theorem dX12_runs_25 : decode cX12_runs 25 = .ok (.getfield 49, 3) := by decide +kernel
theorem dX12_runs_28 : decode cX12_runs 28 = .ok (.iload 5, 2) := by decide +kernel
theorem dX12_runs_30 : decode cX12_runs 30 = .ok (.iaload, 1) := by decide +kernel
theorem dX12_runs_31 : decode cX12_runs 31 = .ok (.ifCond .eq 14, 3) := by decide +kernel
theorem dX12_runs_34 : decode cX12_runs 34 = .ok (.aload_n 0, 1) := by decide +kernel
theorem dX12_runs_35 : decode cX12_runs 35 = .ok (.getfield 49, 3) := by decide +kernel
theorem dX12_runs_38 : decode cX12_runs 38 = .ok (.iload 5, 2) := by decide +kernel
theorem dX12_runs_40 : decode cX12_runs 40 = .ok (.iaload, 1) := by decide +kernel
theorem dX12_runs_41 : decode cX12_runs 41 = .ok (.iconst 1, 1) := by decide +kernel
theorem dX12_runs_42 : decode cX12_runs 42 = .ok (.if_icmp .ne 51, 3) := by decide +kernel
theorem dX12_runs_45 : decode cX12_runs 45 = .ok (.aload_n 0, 1) := by decide +kernel
theorem dX12_runs_46 : decode cX12_runs 46 = .ok (.getfield 74, 3) := by decide +kernel
theorem dX12_runs_49 : decode cX12_runs 49 = .ok (.iload 4, 2) := by decide +kernel
theorem dX12_runs_51 : decode cX12_runs 51 = .ok (.aload_n 0, 1) := by decide +kernel
theorem dX12_runs_52 : decode cX12_runs 52 = .ok (.getfield 49, 3) := by decide +kernel
theorem dX12_runs_55 : decode cX12_runs 55 = .ok (.iload 5, 2) := by decide +kernel
theorem dX12_runs_57 : decode cX12_runs 57 = .ok (.iaload, 1) := by decide +kernel
theorem dX12_runs_58 : decode cX12_runs 58 = .ok (.ifCond .ne 13, 3) := by decide +kernel
theorem dX12_runs_61 : decode cX12_runs 61 = .ok (.aload_n 0, 1) := by decide +kernel
theorem dX12_runs_62 : decode cX12_runs 62 = .ok (.getfield 52, 3) := by decide +kernel
theorem dX12_runs_65 : decode cX12_runs 65 = .ok (.iload 5, 2) := by decide +kernel
theorem dX12_runs_67 : decode cX12_runs 67 = .ok (.iaload, 1) := by decide +kernel
theorem dX12_runs_68 : decode cX12_runs 68 = .ok (.goto 15, 3) := by decide +kernel
theorem dX12_runs_71 : decode cX12_runs 71 = .ok (.aload_n 0, 1) := by decide +kernel
theorem dX12_runs_72 : decode cX12_runs 72 = .ok (.getfield 71, 3) := by decide +kernel
theorem dX12_runs_75 : decode cX12_runs 75 = .ok (.aload_n 0, 1) := by decide +kernel
theorem dX12_runs_76 : decode cX12_runs 76 = .ok (.getfield 52, 3) := by decide +kernel
theorem dX12_runs_79 : decode cX12_runs 79 = .ok (.iload 5, 2) := by decide +kernel
theorem dX12_runs_81 : decode cX12_runs 81 = .ok (.iaload, 1) := by decide +kernel
theorem dX12_runs_82 : decode cX12_runs 82 = .ok (.iaload, 1) := by decide +kernel
theorem dX12_runs_83 : decode cX12_runs 83 = .ok (.iastore, 1) := by decide +kernel
theorem dX12_runs_84 : decode cX12_runs 84 = .ok (.iload 4, 2) := by decide +kernel
theorem dX12_runs_86 : decode cX12_runs 86 = .ok (.iconst 1, 1) := by decide +kernel
theorem dX12_runs_87 : decode cX12_runs 87 = .ok (.iadd, 1) := by decide +kernel
theorem dX12_runs_88 : decode cX12_runs 88 = .ok (.istore 4, 2) := by decide +kernel
theorem dX12_runs_90 : decode cX12_runs 90 = .ok (.goto 80, 3) := by decide +kernel
theorem dX12_runs_93 : decode cX12_runs 93 = .ok (.aload_n 0, 1) := by decide +kernel
theorem dX12_runs_94 : decode cX12_runs 94 = .ok (.getfield 49, 3) := by decide +kernel
theorem dX12_runs_97 : decode cX12_runs 97 = .ok (.iload 5, 2) := by decide +kernel
theorem dX12_runs_99 : decode cX12_runs 99 = .ok (.iaload, 1) := by decide +kernel
theorem dX12_runs_100 : decode cX12_runs 100 = .ok (.bipush 9, 2) := by decide +kernel
theorem dX12_runs_102 : decode cX12_runs 102 = .ok (.if_icmp .ne 26, 3) := by decide +kernel
theorem dX12_runs_105 : decode cX12_runs 105 = .ok (.aload_n 0, 1) := by decide +kernel
theorem dX12_runs_106 : decode cX12_runs 106 = .ok (.getfield 74, 3) := by decide +kernel
theorem dX12_runs_109 : decode cX12_runs 109 = .ok (.iload 4, 2) := by decide +kernel
theorem dX12_runs_111 : decode cX12_runs 111 = .ok (.iconst 1, 1) := by decide +kernel
theorem dX12_runs_112 : decode cX12_runs 112 = .ok (.isub, 1) := by decide +kernel
theorem dX12_runs_113 : decode cX12_runs 113 = .ok (.iconst 1, 1) := by decide +kernel
theorem dX12_runs_114 : decode cX12_runs 114 = .ok (.aload_n 0, 1) := by decide +kernel
theorem dX12_runs_115 : decode cX12_runs 115 = .ok (.getfield 74, 3) := by decide +kernel
theorem dX12_runs_118 : decode cX12_runs 118 = .ok (.iload 4, 2) := by decide +kernel
theorem dX12_runs_120 : decode cX12_runs 120 = .ok (.iconst 1, 1) := by decide +kernel
theorem dX12_runs_121 : decode cX12_runs 121 = .ok (.isub, 1) := by decide +kernel
theorem dX12_runs_122 : decode cX12_runs 122 = .ok (.iaload, 1) := by decide +kernel
theorem dX12_runs_123 : decode cX12_runs 123 = .ok (.isub, 1) := by decide +kernel
theorem dX12_runs_124 : decode cX12_runs 124 = .ok (.iastore, 1) := by decide +kernel
theorem dX12_runs_125 : decode cX12_runs 125 = .ok (.goto 45, 3) := by decide +kernel
theorem dX12_runs_128 : decode cX12_runs 128 = .ok (.iload 4, 2) := by decide +kernel
theorem dX12_runs_130 : decode cX12_runs 130 = .ok (.iconst 1, 1) := by decide +kernel
theorem dX12_runs_131 : decode cX12_runs 131 = .ok (.isub, 1) := by decide +kernel
theorem dX12_runs_132 : decode cX12_runs 132 = .ok (.istore 4, 2) := by decide +kernel
theorem dX12_runs_134 : decode cX12_runs 134 = .ok (.aload_n 0, 1) := by decide +kernel
theorem dX12_runs_135 : decode cX12_runs 135 = .ok (.getfield 74, 3) := by decide +kernel
theorem dX12_runs_138 : decode cX12_runs 138 = .ok (.iload 4, 2) := by decide +kernel
theorem dX12_runs_140 : decode cX12_runs 140 = .ok (.iconst 1, 1) := by decide +kernel
theorem dX12_runs_141 : decode cX12_runs 141 = .ok (.isub, 1) := by decide +kernel
theorem dX12_runs_142 : decode cX12_runs 142 = .ok (.aload_n 0, 1) := by decide +kernel
theorem dX12_runs_143 : decode cX12_runs 143 = .ok (.aload_n 0, 1) := by decide +kernel
theorem dX12_runs_144 : decode cX12_runs 144 = .ok (.getfield 49, 3) := by decide +kernel
theorem dX12_runs_147 : decode cX12_runs 147 = .ok (.iload 5, 2) := by decide +kernel
theorem dX12_runs_149 : decode cX12_runs 149 = .ok (.iaload, 1) := by decide +kernel
theorem dX12_runs_150 : decode cX12_runs 150 = .ok (.aload_n 0, 1) := by decide +kernel
theorem dX12_runs_151 : decode cX12_runs 151 = .ok (.getfield 74, 3) := by decide +kernel
theorem dX12_runs_154 : decode cX12_runs 154 = .ok (.iload 4, 2) := by decide +kernel
theorem dX12_runs_156 : decode cX12_runs 156 = .ok (.iconst 1, 1) := by decide +kernel
theorem dX12_runs_157 : decode cX12_runs 157 = .ok (.isub, 1) := by decide +kernel
theorem dX12_runs_158 : decode cX12_runs 158 = .ok (.iaload, 1) := by decide +kernel
theorem dX12_runs_159 : decode cX12_runs 159 = .ok (.aload_n 0, 1) := by decide +kernel
theorem dX12_runs_160 : decode cX12_runs 160 = .ok (.getfield 74, 3) := by decide +kernel
theorem dX12_runs_163 : decode cX12_runs 163 = .ok (.iload 4, 2) := by decide +kernel
theorem dX12_runs_165 : decode cX12_runs 165 = .ok (.iaload, 1) := by decide +kernel
theorem dX12_runs_166 : decode cX12_runs 166 = .ok (.invokevirtual 318, 3) := by decide +kernel
theorem dX12_runs_169 : decode cX12_runs 169 = .ok (.iastore, 1) := by decide +kernel
theorem dX12_runs_170 : decode cX12_runs 170 = .ok (.iinc 5 1, 3) := by decide +kernel
theorem dX12_runs_173 : decode cX12_runs 173 = .ok (.goto (-161), 3) := by decide +kernel
theorem dX12_runs_176 : decode cX12_runs 176 = .ok (.aload_n 0, 1) := by decide +kernel
theorem dX12_runs_177 : decode cX12_runs 177 = .ok (.getfield 74, 3) := by decide +kernel
theorem dX12_runs_180 : decode cX12_runs 180 = .ok (.iconst 0, 1) := by decide +kernel
theorem dX12_runs_181 : decode cX12_runs 181 = .ok (.iaload, 1) := by decide +kernel
theorem dX12_runs_182 : decode cX12_runs 182 = .ok (.ireturn, 1) := by decide +kernel
theorem dX12_lineOf_0 : decode cX12_lineOf 0 = .ok (.iconst 0, 1) := by decide +kernel
theorem dX12_lineOf_1 : decode cX12_lineOf 1 = .ok (.istore_n 2, 1) := by decide +kernel
theorem dX12_lineOf_2 : decode cX12_lineOf 2 = .ok (.iload_n 2, 1) := by decide +kernel
theorem dX12_lineOf_3 : decode cX12_lineOf 3 = .ok (.aload_n 0, 1) := by decide +kernel
theorem dX12_lineOf_4 : decode cX12_lineOf 4 = .ok (.getfield 34, 3) := by decide +kernel
theorem dX12_lineOf_7 : decode cX12_lineOf 7 = .ok (.iconst 1, 1) := by decide +kernel
theorem dX12_lineOf_8 : decode cX12_lineOf 8 = .ok (.iaload, 1) := by decide +kernel
theorem dX12_lineOf_9 : decode cX12_lineOf 9 = .ok (.if_icmp .ge 61, 3) := by decide +kernel
theorem dX12_lineOf_12 : decode cX12_lineOf 12 = .ok (.bipush 16, 2) := by decide +kernel
theorem dX12_lineOf_14 : decode cX12_lineOf 14 = .ok (.iload_n 2, 1) := by decide +kernel
theorem dX12_lineOf_15 : decode cX12_lineOf 15 = .ok (.iadd, 1) := by decide +kernel
theorem dX12_lineOf_16 : decode cX12_lineOf 16 = .ok (.istore_n 3, 1) := by decide +kernel
theorem dX12_lineOf_17 : decode cX12_lineOf 17 = .ok (.aload_n 0, 1) := by decide +kernel
theorem dX12_lineOf_18 : decode cX12_lineOf 18 = .ok (.getfield 37, 3) := by decide +kernel
theorem dX12_lineOf_21 : decode cX12_lineOf 21 = .ok (.iload_n 3, 1) := by decide +kernel
theorem dX12_lineOf_22 : decode cX12_lineOf 22 = .ok (.iaload, 1) := by decide +kernel
theorem dX12_lineOf_23 : decode cX12_lineOf 23 = .ok (.iload_n 1, 1) := by decide +kernel
theorem dX12_lineOf_24 : decode cX12_lineOf 24 = .ok (.if_icmp .ne 40, 3) := by decide +kernel
theorem dX12_lineOf_27 : decode cX12_lineOf 27 = .ok (.aload_n 0, 1) := by decide +kernel
theorem dX12_lineOf_28 : decode cX12_lineOf 28 = .ok (.getfield 43, 3) := by decide +kernel
theorem dX12_lineOf_31 : decode cX12_lineOf 31 = .ok (.iload_n 3, 1) := by decide +kernel
theorem dX12_lineOf_32 : decode cX12_lineOf 32 = .ok (.iaload, 1) := by decide +kernel
theorem dX12_lineOf_33 : decode cX12_lineOf 33 = .ok (.aload_n 0, 1) := by decide +kernel
theorem dX12_lineOf_34 : decode cX12_lineOf 34 = .ok (.getfield 46, 3) := by decide +kernel
theorem dX12_lineOf_37 : decode cX12_lineOf 37 = .ok (.iload_n 3, 1) := by decide +kernel
theorem dX12_lineOf_38 : decode cX12_lineOf 38 = .ok (.iaload, 1) := by decide +kernel
theorem dX12_lineOf_39 : decode cX12_lineOf 39 = .ok (.if_icmp .eq 23, 3) := by decide +kernel
theorem dX12_lineOf_42 : decode cX12_lineOf 42 = .ok (.aload_n 0, 1) := by decide +kernel
theorem dX12_lineOf_43 : decode cX12_lineOf 43 = .ok (.iconst 1, 1) := by decide +kernel
theorem dX12_lineOf_44 : decode cX12_lineOf 44 = .ok (.aload_n 0, 1) := by decide +kernel
theorem dX12_lineOf_45 : decode cX12_lineOf 45 = .ok (.getfield 43, 3) := by decide +kernel
theorem dX12_lineOf_48 : decode cX12_lineOf 48 = .ok (.iload_n 3, 1) := by decide +kernel
theorem dX12_lineOf_49 : decode cX12_lineOf 49 = .ok (.iaload, 1) := by decide +kernel
theorem dX12_lineOf_50 : decode cX12_lineOf 50 = .ok (.aload_n 0, 1) := by decide +kernel
theorem dX12_lineOf_51 : decode cX12_lineOf 51 = .ok (.getfield 46, 3) := by decide +kernel
theorem dX12_lineOf_54 : decode cX12_lineOf 54 = .ok (.iload_n 3, 1) := by decide +kernel
theorem dX12_lineOf_55 : decode cX12_lineOf 55 = .ok (.iaload, 1) := by decide +kernel
theorem dX12_lineOf_56 : decode cX12_lineOf 56 = .ok (.invokevirtual 321, 3) := by decide +kernel
theorem dX12_lineOf_59 : decode cX12_lineOf 59 = .ok (.ifCond .eq 5, 3) := by decide +kernel
theorem dX12_lineOf_62 : decode cX12_lineOf 62 = .ok (.iload_n 3, 1) := by decide +kernel
theorem dX12_lineOf_63 : decode cX12_lineOf 63 = .ok (.ireturn, 1) := by decide +kernel
theorem dX12_lineOf_64 : decode cX12_lineOf 64 = .ok (.iinc 2 1, 3) := by decide +kernel
theorem dX12_lineOf_67 : decode cX12_lineOf 67 = .ok (.goto (-65), 3) := by decide +kernel
theorem dX12_lineOf_70 : decode cX12_lineOf 70 = .ok (.iconst (-1), 1) := by decide +kernel
theorem dX12_lineOf_71 : decode cX12_lineOf 71 = .ok (.ireturn, 1) := by decide +kernel
theorem dX12_asks_0 : decode cX12_asks 0 = .ok (.aload_n 0, 1) := by decide +kernel
theorem dX12_asks_1 : decode cX12_asks 1 = .ok (.getfield 71, 3) := by decide +kernel
theorem dX12_asks_4 : decode cX12_asks 4 = .ok (.iconst 0, 1) := by decide +kernel
theorem dX12_asks_5 : decode cX12_asks 5 = .ok (.aload_n 0, 1) := by decide +kernel
theorem dX12_asks_6 : decode cX12_asks 6 = .ok (.getfield 7, 3) := by decide +kernel
theorem dX12_asks_9 : decode cX12_asks 9 = .ok (.bipush 76, 2) := by decide +kernel
theorem dX12_asks_11 : decode cX12_asks 11 = .ok (.iload_n 1, 1) := by decide +kernel
theorem dX12_asks_12 : decode cX12_asks 12 = .ok (.iadd, 1) := by decide +kernel
theorem dX12_asks_13 : decode cX12_asks 13 = .ok (.iaload, 1) := by decide +kernel
theorem dX12_asks_14 : decode cX12_asks 14 = .ok (.iastore, 1) := by decide +kernel
theorem dX12_asks_15 : decode cX12_asks 15 = .ok (.aload_n 0, 1) := by decide +kernel
theorem dX12_asks_16 : decode cX12_asks 16 = .ok (.getfield 71, 3) := by decide +kernel
theorem dX12_asks_19 : decode cX12_asks 19 = .ok (.iconst 1, 1) := by decide +kernel
theorem dX12_asks_20 : decode cX12_asks 20 = .ok (.aload_n 0, 1) := by decide +kernel
theorem dX12_asks_21 : decode cX12_asks 21 = .ok (.getfield 7, 3) := by decide +kernel
theorem dX12_asks_24 : decode cX12_asks 24 = .ok (.bipush 84, 2) := by decide +kernel
theorem dX12_asks_26 : decode cX12_asks 26 = .ok (.iload_n 1, 1) := by decide +kernel
theorem dX12_asks_27 : decode cX12_asks 27 = .ok (.iadd, 1) := by decide +kernel
theorem dX12_asks_28 : decode cX12_asks 28 = .ok (.iaload, 1) := by decide +kernel
theorem dX12_asks_29 : decode cX12_asks 29 = .ok (.iastore, 1) := by decide +kernel
theorem dX12_asks_30 : decode cX12_asks 30 = .ok (.aload_n 0, 1) := by decide +kernel
theorem dX12_asks_31 : decode cX12_asks 31 = .ok (.getfield 71, 3) := by decide +kernel
theorem dX12_asks_34 : decode cX12_asks 34 = .ok (.iconst 2, 1) := by decide +kernel
theorem dX12_asks_35 : decode cX12_asks 35 = .ok (.aload_n 0, 1) := by decide +kernel
theorem dX12_asks_36 : decode cX12_asks 36 = .ok (.getfield 7, 3) := by decide +kernel
theorem dX12_asks_39 : decode cX12_asks 39 = .ok (.bipush 92, 2) := by decide +kernel
theorem dX12_asks_41 : decode cX12_asks 41 = .ok (.iload_n 1, 1) := by decide +kernel
theorem dX12_asks_42 : decode cX12_asks 42 = .ok (.iadd, 1) := by decide +kernel
theorem dX12_asks_43 : decode cX12_asks 43 = .ok (.iaload, 1) := by decide +kernel
theorem dX12_asks_44 : decode cX12_asks 44 = .ok (.iastore, 1) := by decide +kernel
theorem dX12_asks_45 : decode cX12_asks 45 = .ok (.aload_n 0, 1) := by decide +kernel
theorem dX12_asks_46 : decode cX12_asks 46 = .ok (.getfield 71, 3) := by decide +kernel
theorem dX12_asks_49 : decode cX12_asks 49 = .ok (.iconst 3, 1) := by decide +kernel
theorem dX12_asks_50 : decode cX12_asks 50 = .ok (.aload_n 0, 1) := by decide +kernel
theorem dX12_asks_51 : decode cX12_asks 51 = .ok (.iload_n 1, 1) := by decide +kernel
theorem dX12_asks_52 : decode cX12_asks 52 = .ok (.aload_n 0, 1) := by decide +kernel
theorem dX12_asks_53 : decode cX12_asks 53 = .ok (.iload_n 1, 1) := by decide +kernel
theorem dX12_asks_54 : decode cX12_asks 54 = .ok (.invokevirtual 324, 3) := by decide +kernel
theorem dX12_asks_57 : decode cX12_asks 57 = .ok (.invokevirtual 134, 3) := by decide +kernel
theorem dX12_asks_60 : decode cX12_asks 60 = .ok (.iastore, 1) := by decide +kernel
theorem dX12_asks_61 : decode cX12_asks 61 = .ok (.aload_n 0, 1) := by decide +kernel
theorem dX12_asks_62 : decode cX12_asks 62 = .ok (.getfield 71, 3) := by decide +kernel
theorem dX12_asks_65 : decode cX12_asks 65 = .ok (.iconst 4, 1) := by decide +kernel
theorem dX12_asks_66 : decode cX12_asks 66 = .ok (.aload_n 0, 1) := by decide +kernel
theorem dX12_asks_67 : decode cX12_asks 67 = .ok (.iload_n 1, 1) := by decide +kernel
theorem dX12_asks_68 : decode cX12_asks 68 = .ok (.invokevirtual 324, 3) := by decide +kernel
theorem dX12_asks_71 : decode cX12_asks 71 = .ok (.iastore, 1) := by decide +kernel
theorem dX12_asks_72 : decode cX12_asks 72 = .ok (.aload_n 0, 1) := by decide +kernel
theorem dX12_asks_73 : decode cX12_asks 73 = .ok (.getfield 71, 3) := by decide +kernel
theorem dX12_asks_76 : decode cX12_asks 76 = .ok (.iconst 5, 1) := by decide +kernel
theorem dX12_asks_77 : decode cX12_asks 77 = .ok (.aload_n 0, 1) := by decide +kernel
theorem dX12_asks_78 : decode cX12_asks 78 = .ok (.getfield 7, 3) := by decide +kernel
theorem dX12_asks_81 : decode cX12_asks 81 = .ok (.iconst 0, 1) := by decide +kernel
theorem dX12_asks_82 : decode cX12_asks 82 = .ok (.iaload, 1) := by decide +kernel
theorem dX12_asks_83 : decode cX12_asks 83 = .ok (.iastore, 1) := by decide +kernel
theorem dX12_asks_84 : decode cX12_asks 84 = .ok (.aload_n 0, 1) := by decide +kernel
theorem dX12_asks_85 : decode cX12_asks 85 = .ok (.getfield 71, 3) := by decide +kernel
theorem dX12_asks_88 : decode cX12_asks 88 = .ok (.bipush 6, 2) := by decide +kernel
theorem dX12_asks_90 : decode cX12_asks 90 = .ok (.aload_n 0, 1) := by decide +kernel
theorem dX12_asks_91 : decode cX12_asks 91 = .ok (.aload_n 0, 1) := by decide +kernel
theorem dX12_asks_92 : decode cX12_asks 92 = .ok (.iload_n 1, 1) := by decide +kernel
theorem dX12_asks_93 : decode cX12_asks 93 = .ok (.invokevirtual 327, 3) := by decide +kernel
theorem dX12_asks_96 : decode cX12_asks 96 = .ok (.invokevirtual 330, 3) := by decide +kernel
theorem dX12_asks_99 : decode cX12_asks 99 = .ok (.iastore, 1) := by decide +kernel
theorem dX12_asks_100 : decode cX12_asks 100 = .ok (.aload_n 0, 1) := by decide +kernel
theorem dX12_asks_101 : decode cX12_asks 101 = .ok (.getfield 71, 3) := by decide +kernel
theorem dX12_asks_104 : decode cX12_asks 104 = .ok (.bipush 7, 2) := by decide +kernel
theorem dX12_asks_106 : decode cX12_asks 106 = .ok (.aload_n 0, 1) := by decide +kernel
theorem dX12_asks_107 : decode cX12_asks 107 = .ok (.aload_n 0, 1) := by decide +kernel
theorem dX12_asks_108 : decode cX12_asks 108 = .ok (.getfield 22, 3) := by decide +kernel
theorem dX12_asks_111 : decode cX12_asks 111 = .ok (.iload_n 1, 1) := by decide +kernel
theorem dX12_asks_112 : decode cX12_asks 112 = .ok (.iaload, 1) := by decide +kernel
theorem dX12_asks_113 : decode cX12_asks 113 = .ok (.invokevirtual 330, 3) := by decide +kernel
theorem dX12_asks_116 : decode cX12_asks 116 = .ok (.iastore, 1) := by decide +kernel
theorem dX12_asks_117 : decode cX12_asks 117 = .ok (.return_, 1) := by decide +kernel
theorem dX12_lawTells_0 : decode cX12_lawTells 0 = .ok (.aload_n 0, 1) := by decide +kernel
theorem dX12_lawTells_1 : decode cX12_lawTells 1 = .ok (.iload_n 1, 1) := by decide +kernel
theorem dX12_lawTells_2 : decode cX12_lawTells 2 = .ok (.invokevirtual 333, 3) := by decide +kernel
theorem dX12_lawTells_5 : decode cX12_lawTells 5 = .ok (.istore 5, 2) := by decide +kernel
theorem dX12_lawTells_7 : decode cX12_lawTells 7 = .ok (.aload_n 0, 1) := by decide +kernel
theorem dX12_lawTells_8 : decode cX12_lawTells 8 = .ok (.iload 5, 2) := by decide +kernel
theorem dX12_lawTells_10 : decode cX12_lawTells 10 = .ok (.iconst (-1), 1) := by decide +kernel
theorem dX12_lawTells_11 : decode cX12_lawTells 11 = .ok (.if_icmp .ne 7, 3) := by decide +kernel
theorem dX12_lawTells_14 : decode cX12_lawTells 14 = .ok (.iload_n 2, 1) := by decide +kernel
theorem dX12_lawTells_15 : decode cX12_lawTells 15 = .ok (.goto 22, 3) := by decide +kernel
theorem dX12_lawTells_18 : decode cX12_lawTells 18 = .ok (.aload_n 0, 1) := by decide +kernel
theorem dX12_lawTells_19 : decode cX12_lawTells 19 = .ok (.iconst 1, 1) := by decide +kernel
theorem dX12_lawTells_20 : decode cX12_lawTells 20 = .ok (.aload_n 0, 1) := by decide +kernel
theorem dX12_lawTells_21 : decode cX12_lawTells 21 = .ok (.getfield 40, 3) := by decide +kernel
theorem dX12_lawTells_24 : decode cX12_lawTells 24 = .ok (.iload 5, 2) := by decide +kernel
theorem dX12_lawTells_26 : decode cX12_lawTells 26 = .ok (.iaload, 1) := by decide +kernel
theorem dX12_lawTells_27 : decode cX12_lawTells 27 = .ok (.aload_n 0, 1) := by decide +kernel
theorem dX12_lawTells_28 : decode cX12_lawTells 28 = .ok (.getfield 43, 3) := by decide +kernel
theorem dX12_lawTells_31 : decode cX12_lawTells 31 = .ok (.iload 5, 2) := by decide +kernel
theorem dX12_lawTells_33 : decode cX12_lawTells 33 = .ok (.iaload, 1) := by decide +kernel
theorem dX12_lawTells_34 : decode cX12_lawTells 34 = .ok (.invokevirtual 321, 3) := by decide +kernel
theorem dX12_lawTells_37 : decode cX12_lawTells 37 = .ok (.iload_n 3, 1) := by decide +kernel
theorem dX12_lawTells_38 : decode cX12_lawTells 38 = .ok (.iload 4, 2) := by decide +kernel
theorem dX12_lawTells_40 : decode cX12_lawTells 40 = .ok (.invokevirtual 336, 3) := by decide +kernel
theorem dX12_lawTells_43 : decode cX12_lawTells 43 = .ok (.ireturn, 1) := by decide +kernel
theorem dX12_growAsked_0 : decode cX12_growAsked 0 = .ok (.aload_n 0, 1) := by decide +kernel
theorem dX12_growAsked_1 : decode cX12_growAsked 1 = .ok (.iconst 0, 1) := by decide +kernel
theorem dX12_growAsked_2 : decode cX12_growAsked 2 = .ok (.aload_n 0, 1) := by decide +kernel
theorem dX12_growAsked_3 : decode cX12_growAsked 3 = .ok (.getfield 71, 3) := by decide +kernel
theorem dX12_growAsked_6 : decode cX12_growAsked 6 = .ok (.iconst 2, 1) := by decide +kernel
theorem dX12_growAsked_7 : decode cX12_growAsked 7 = .ok (.iaload, 1) := by decide +kernel
theorem dX12_growAsked_8 : decode cX12_growAsked 8 = .ok (.iconst 5, 1) := by decide +kernel
theorem dX12_growAsked_9 : decode cX12_growAsked 9 = .ok (.isub, 1) := by decide +kernel
theorem dX12_growAsked_10 : decode cX12_growAsked 10 = .ok (.bipush (-99), 2) := by decide +kernel
theorem dX12_growAsked_12 : decode cX12_growAsked 12 = .ok (.bipush 99, 2) := by decide +kernel
theorem dX12_growAsked_14 : decode cX12_growAsked 14 = .ok (.invokevirtual 339, 3) := by decide +kernel
theorem dX12_growAsked_17 : decode cX12_growAsked 17 = .ok (.ireturn, 1) := by decide +kernel
theorem dX12_lowerAsked_0 : decode cX12_lowerAsked 0 = .ok (.aload_n 0, 1) := by decide +kernel
theorem dX12_lowerAsked_1 : decode cX12_lowerAsked 1 = .ok (.iconst 1, 1) := by decide +kernel
theorem dX12_lowerAsked_2 : decode cX12_lowerAsked 2 = .ok (.aload_n 0, 1) := by decide +kernel
theorem dX12_lowerAsked_3 : decode cX12_lowerAsked 3 = .ok (.getfield 71, 3) := by decide +kernel
theorem dX12_lowerAsked_6 : decode cX12_lowerAsked 6 = .ok (.iconst 0, 1) := by decide +kernel
theorem dX12_lowerAsked_7 : decode cX12_lowerAsked 7 = .ok (.iaload, 1) := by decide +kernel
theorem dX12_lowerAsked_8 : decode cX12_lowerAsked 8 = .ok (.bipush 10, 2) := by decide +kernel
theorem dX12_lowerAsked_10 : decode cX12_lowerAsked 10 = .ok (.idiv, 1) := by decide +kernel
theorem dX12_lowerAsked_11 : decode cX12_lowerAsked 11 = .ok (.iconst 0, 1) := by decide +kernel
theorem dX12_lowerAsked_12 : decode cX12_lowerAsked 12 = .ok (.bipush 100, 2) := by decide +kernel
theorem dX12_lowerAsked_14 : decode cX12_lowerAsked 14 = .ok (.invokevirtual 339, 3) := by decide +kernel
theorem dX12_lowerAsked_17 : decode cX12_lowerAsked 17 = .ok (.ireturn, 1) := by decide +kernel
theorem dX12_seedAsked_0 : decode cX12_seedAsked 0 = .ok (.aload_n 0, 1) := by decide +kernel
theorem dX12_seedAsked_1 : decode cX12_seedAsked 1 = .ok (.iconst 2, 1) := by decide +kernel
theorem dX12_seedAsked_2 : decode cX12_seedAsked 2 = .ok (.bipush 10, 2) := by decide +kernel
theorem dX12_seedAsked_4 : decode cX12_seedAsked 4 = .ok (.iconst 0, 1) := by decide +kernel
theorem dX12_seedAsked_5 : decode cX12_seedAsked 5 = .ok (.bipush 99, 2) := by decide +kernel
theorem dX12_seedAsked_7 : decode cX12_seedAsked 7 = .ok (.invokevirtual 339, 3) := by decide +kernel
theorem dX12_seedAsked_10 : decode cX12_seedAsked 10 = .ok (.ireturn, 1) := by decide +kernel
theorem dX12_notes_0 : decode cX12_notes 0 = .ok (.aload_n 0, 1) := by decide +kernel
theorem dX12_notes_1 : decode cX12_notes 1 = .ok (.getfield 119, 3) := by decide +kernel
theorem dX12_notes_4 : decode cX12_notes 4 = .ok (.ifCond .ne 15, 3) := by decide +kernel
theorem dX12_notes_7 : decode cX12_notes 7 = .ok (.aload_n 0, 1) := by decide +kernel
theorem dX12_notes_8 : decode cX12_notes 8 = .ok (.getfield 7, 3) := by decide +kernel
theorem dX12_notes_11 : decode cX12_notes 11 = .ok (.iconst 2, 1) := by decide +kernel
theorem dX12_notes_12 : decode cX12_notes 12 = .ok (.iaload, 1) := by decide +kernel
theorem dX12_notes_13 : decode cX12_notes 13 = .ok (.sipush 150, 3) := by decide +kernel
theorem dX12_notes_16 : decode cX12_notes 16 = .ok (.if_icmp .ne 4, 3) := by decide +kernel
theorem dX12_notes_19 : decode cX12_notes 19 = .ok (.return_, 1) := by decide +kernel
theorem dX12_notes_20 : decode cX12_notes 20 = .ok (.iconst 4, 1) := by decide +kernel
theorem dX12_notes_21 : decode cX12_notes 21 = .ok (.aload_n 0, 1) := by decide +kernel
theorem dX12_notes_22 : decode cX12_notes 22 = .ok (.getfield 7, 3) := by decide +kernel
theorem dX12_notes_25 : decode cX12_notes 25 = .ok (.iconst 2, 1) := by decide +kernel
theorem dX12_notes_26 : decode cX12_notes 26 = .ok (.iaload, 1) := by decide +kernel
theorem dX12_notes_27 : decode cX12_notes 27 = .ok (.imul, 1) := by decide +kernel
theorem dX12_notes_28 : decode cX12_notes 28 = .ok (.istore 4, 2) := by decide +kernel
theorem dX12_notes_30 : decode cX12_notes 30 = .ok (.aload_n 0, 1) := by decide +kernel
theorem dX12_notes_31 : decode cX12_notes 31 = .ok (.getfield 25, 3) := by decide +kernel
theorem dX12_notes_34 : decode cX12_notes 34 = .ok (.iload 4, 2) := by decide +kernel
theorem dX12_notes_36 : decode cX12_notes 36 = .ok (.aload_n 0, 1) := by decide +kernel
theorem dX12_notes_37 : decode cX12_notes 37 = .ok (.getfield 7, 3) := by decide +kernel
theorem dX12_notes_40 : decode cX12_notes 40 = .ok (.iconst 0, 1) := by decide +kernel
theorem dX12_notes_41 : decode cX12_notes 41 = .ok (.iaload, 1) := by decide +kernel
theorem dX12_notes_42 : decode cX12_notes 42 = .ok (.iastore, 1) := by decide +kernel
theorem dX12_notes_43 : decode cX12_notes 43 = .ok (.aload_n 0, 1) := by decide +kernel
theorem dX12_notes_44 : decode cX12_notes 44 = .ok (.getfield 25, 3) := by decide +kernel
theorem dX12_notes_47 : decode cX12_notes 47 = .ok (.iload 4, 2) := by decide +kernel
theorem dX12_notes_49 : decode cX12_notes 49 = .ok (.iconst 1, 1) := by decide +kernel
theorem dX12_notes_50 : decode cX12_notes 50 = .ok (.iadd, 1) := by decide +kernel
theorem dX12_notes_51 : decode cX12_notes 51 = .ok (.iload_n 1, 1) := by decide +kernel
theorem dX12_notes_52 : decode cX12_notes 52 = .ok (.iastore, 1) := by decide +kernel
theorem dX12_notes_53 : decode cX12_notes 53 = .ok (.aload_n 0, 1) := by decide +kernel
theorem dX12_notes_54 : decode cX12_notes 54 = .ok (.getfield 25, 3) := by decide +kernel
theorem dX12_notes_57 : decode cX12_notes 57 = .ok (.iload 4, 2) := by decide +kernel
theorem dX12_notes_59 : decode cX12_notes 59 = .ok (.iconst 2, 1) := by decide +kernel
theorem dX12_notes_60 : decode cX12_notes 60 = .ok (.iadd, 1) := by decide +kernel
theorem dX12_notes_61 : decode cX12_notes 61 = .ok (.iload_n 2, 1) := by decide +kernel
theorem dX12_notes_62 : decode cX12_notes 62 = .ok (.iastore, 1) := by decide +kernel
theorem dX12_notes_63 : decode cX12_notes 63 = .ok (.aload_n 0, 1) := by decide +kernel
theorem dX12_notes_64 : decode cX12_notes 64 = .ok (.getfield 25, 3) := by decide +kernel
theorem dX12_notes_67 : decode cX12_notes 67 = .ok (.iload 4, 2) := by decide +kernel
theorem dX12_notes_69 : decode cX12_notes 69 = .ok (.iconst 3, 1) := by decide +kernel
theorem dX12_notes_70 : decode cX12_notes 70 = .ok (.iadd, 1) := by decide +kernel
theorem dX12_notes_71 : decode cX12_notes 71 = .ok (.iload_n 3, 1) := by decide +kernel
theorem dX12_notes_72 : decode cX12_notes 72 = .ok (.iastore, 1) := by decide +kernel
theorem dX12_notes_73 : decode cX12_notes 73 = .ok (.aload_n 0, 1) := by decide +kernel
theorem dX12_notes_74 : decode cX12_notes 74 = .ok (.getfield 7, 3) := by decide +kernel
theorem dX12_notes_77 : decode cX12_notes 77 = .ok (.iconst 2, 1) := by decide +kernel
theorem dX12_notes_78 : decode cX12_notes 78 = .ok (.aload_n 0, 1) := by decide +kernel
theorem dX12_notes_79 : decode cX12_notes 79 = .ok (.getfield 7, 3) := by decide +kernel
theorem dX12_notes_82 : decode cX12_notes 82 = .ok (.iconst 2, 1) := by decide +kernel
theorem dX12_notes_83 : decode cX12_notes 83 = .ok (.iaload, 1) := by decide +kernel
theorem dX12_notes_84 : decode cX12_notes 84 = .ok (.iconst 1, 1) := by decide +kernel
theorem dX12_notes_85 : decode cX12_notes 85 = .ok (.iadd, 1) := by decide +kernel
theorem dX12_notes_86 : decode cX12_notes 86 = .ok (.iastore, 1) := by decide +kernel
theorem dX12_notes_87 : decode cX12_notes 87 = .ok (.return_, 1) := by decide +kernel
theorem dX12_pots_0 : decode cX12_pots 0 = .ok (.aload_n 0, 1) := by decide +kernel
theorem dX12_pots_1 : decode cX12_pots 1 = .ok (.getfield 7, 3) := by decide +kernel
theorem dX12_pots_4 : decode cX12_pots 4 = .ok (.bipush 68, 2) := by decide +kernel
theorem dX12_pots_6 : decode cX12_pots 6 = .ok (.iload_n 1, 1) := by decide +kernel
theorem dX12_pots_7 : decode cX12_pots 7 = .ok (.iadd, 1) := by decide +kernel
theorem dX12_pots_8 : decode cX12_pots 8 = .ok (.iload_n 2, 1) := by decide +kernel
theorem dX12_pots_9 : decode cX12_pots 9 = .ok (.iconst 1, 1) := by decide +kernel
theorem dX12_pots_10 : decode cX12_pots 10 = .ok (.iadd, 1) := by decide +kernel
theorem dX12_pots_11 : decode cX12_pots 11 = .ok (.iastore, 1) := by decide +kernel
theorem dX12_pots_12 : decode cX12_pots 12 = .ok (.aload_n 0, 1) := by decide +kernel
theorem dX12_pots_13 : decode cX12_pots 13 = .ok (.getfield 7, 3) := by decide +kernel
theorem dX12_pots_16 : decode cX12_pots 16 = .ok (.bipush 76, 2) := by decide +kernel
theorem dX12_pots_18 : decode cX12_pots 18 = .ok (.iload_n 1, 1) := by decide +kernel
theorem dX12_pots_19 : decode cX12_pots 19 = .ok (.iadd, 1) := by decide +kernel
theorem dX12_pots_20 : decode cX12_pots 20 = .ok (.iload_n 3, 1) := by decide +kernel
theorem dX12_pots_21 : decode cX12_pots 21 = .ok (.iastore, 1) := by decide +kernel
theorem dX12_pots_22 : decode cX12_pots 22 = .ok (.aload_n 0, 1) := by decide +kernel
theorem dX12_pots_23 : decode cX12_pots 23 = .ok (.getfield 7, 3) := by decide +kernel
theorem dX12_pots_26 : decode cX12_pots 26 = .ok (.bipush 84, 2) := by decide +kernel
theorem dX12_pots_28 : decode cX12_pots 28 = .ok (.iload_n 1, 1) := by decide +kernel
theorem dX12_pots_29 : decode cX12_pots 29 = .ok (.iadd, 1) := by decide +kernel
theorem dX12_pots_30 : decode cX12_pots 30 = .ok (.iload 4, 2) := by decide +kernel
theorem dX12_pots_32 : decode cX12_pots 32 = .ok (.iastore, 1) := by decide +kernel
theorem dX12_pots_33 : decode cX12_pots 33 = .ok (.aload_n 0, 1) := by decide +kernel
theorem dX12_pots_34 : decode cX12_pots 34 = .ok (.getfield 7, 3) := by decide +kernel
theorem dX12_pots_37 : decode cX12_pots 37 = .ok (.bipush 92, 2) := by decide +kernel
theorem dX12_pots_39 : decode cX12_pots 39 = .ok (.iload_n 1, 1) := by decide +kernel
theorem dX12_pots_40 : decode cX12_pots 40 = .ok (.iadd, 1) := by decide +kernel
theorem dX12_pots_41 : decode cX12_pots 41 = .ok (.iconst 0, 1) := by decide +kernel
theorem dX12_pots_42 : decode cX12_pots 42 = .ok (.iastore, 1) := by decide +kernel
theorem dX12_pots_43 : decode cX12_pots 43 = .ok (.aload_n 0, 1) := by decide +kernel
theorem dX12_pots_44 : decode cX12_pots 44 = .ok (.iload 5, 2) := by decide +kernel
theorem dX12_pots_46 : decode cX12_pots 46 = .ok (.iload_n 1, 1) := by decide +kernel
theorem dX12_pots_47 : decode cX12_pots 47 = .ok (.iload_n 2, 1) := by decide +kernel
theorem dX12_pots_48 : decode cX12_pots 48 = .ok (.invokevirtual 343, 3) := by decide +kernel
theorem dX12_pots_51 : decode cX12_pots 51 = .ok (.return_, 1) := by decide +kernel
theorem dX12_loses_0 : decode cX12_loses 0 = .ok (.aload_n 0, 1) := by decide +kernel
theorem dX12_loses_1 : decode cX12_loses 1 = .ok (.iload_n 2, 1) := by decide +kernel
theorem dX12_loses_2 : decode cX12_loses 2 = .ok (.iload_n 1, 1) := by decide +kernel
theorem dX12_loses_3 : decode cX12_loses 3 = .ok (.aload_n 0, 1) := by decide +kernel
theorem dX12_loses_4 : decode cX12_loses 4 = .ok (.iload_n 1, 1) := by decide +kernel
theorem dX12_loses_5 : decode cX12_loses 5 = .ok (.invokevirtual 324, 3) := by decide +kernel
theorem dX12_loses_8 : decode cX12_loses 8 = .ok (.invokevirtual 343, 3) := by decide +kernel
theorem dX12_loses_11 : decode cX12_loses 11 = .ok (.aload_n 0, 1) := by decide +kernel
theorem dX12_loses_12 : decode cX12_loses 12 = .ok (.getfield 7, 3) := by decide +kernel
theorem dX12_loses_15 : decode cX12_loses 15 = .ok (.bipush 68, 2) := by decide +kernel
theorem dX12_loses_17 : decode cX12_loses 17 = .ok (.iload_n 1, 1) := by decide +kernel
theorem dX12_loses_18 : decode cX12_loses 18 = .ok (.iadd, 1) := by decide +kernel
theorem dX12_loses_19 : decode cX12_loses 19 = .ok (.iconst 0, 1) := by decide +kernel
theorem dX12_loses_20 : decode cX12_loses 20 = .ok (.iastore, 1) := by decide +kernel
theorem dX12_loses_21 : decode cX12_loses 21 = .ok (.return_, 1) := by decide +kernel
theorem dX12_canDo_0 : decode cX12_canDo 0 = .ok (.iload_n 1, 1) := by decide +kernel
theorem dX12_canDo_1 : decode cX12_canDo 1 = .ok (.iconst 3, 1) := by decide +kernel
theorem dX12_canDo_2 : decode cX12_canDo 2 = .ok (.if_icmp .eq 29, 3) := by decide +kernel
theorem dX12_canDo_5 : decode cX12_canDo 5 = .ok (.iload_n 1, 1) := by decide +kernel
theorem dX12_canDo_6 : decode cX12_canDo 6 = .ok (.ifCond .ne 7, 3) := by decide +kernel
theorem dX12_canDo_9 : decode cX12_canDo 9 = .ok (.iconst 1, 1) := by decide +kernel
theorem dX12_canDo_10 : decode cX12_canDo 10 = .ok (.goto 4, 3) := by decide +kernel
theorem dX12_canDo_13 : decode cX12_canDo 13 = .ok (.iconst 0, 1) := by decide +kernel
theorem dX12_canDo_14 : decode cX12_canDo 14 = .ok (.aload_n 0, 1) := by decide +kernel
theorem dX12_canDo_15 : decode cX12_canDo 15 = .ok (.iload_n 2, 1) := by decide +kernel
theorem dX12_canDo_16 : decode cX12_canDo 16 = .ok (.invokevirtual 324, 3) := by decide +kernel
theorem dX12_canDo_19 : decode cX12_canDo 19 = .ok (.iconst (-1), 1) := by decide +kernel
theorem dX12_canDo_20 : decode cX12_canDo 20 = .ok (.if_icmp .ne 7, 3) := by decide +kernel
theorem dX12_canDo_23 : decode cX12_canDo 23 = .ok (.iconst 1, 1) := by decide +kernel
theorem dX12_canDo_24 : decode cX12_canDo 24 = .ok (.goto 4, 3) := by decide +kernel
theorem dX12_canDo_27 : decode cX12_canDo 27 = .ok (.iconst 0, 1) := by decide +kernel
theorem dX12_canDo_28 : decode cX12_canDo 28 = .ok (.if_icmp .ne 7, 3) := by decide +kernel
theorem dX12_canDo_31 : decode cX12_canDo 31 = .ok (.iconst 1, 1) := by decide +kernel
theorem dX12_canDo_32 : decode cX12_canDo 32 = .ok (.goto 4, 3) := by decide +kernel
theorem dX12_canDo_35 : decode cX12_canDo 35 = .ok (.iconst 0, 1) := by decide +kernel
theorem dX12_canDo_36 : decode cX12_canDo 36 = .ok (.ireturn, 1) := by decide +kernel
theorem dX12_does_0 : decode cX12_does 0 = .ok (.iload_n 1, 1) := by decide +kernel
theorem dX12_does_1 : decode cX12_does 1 = .ok (.ifCond .ne 14, 3) := by decide +kernel
theorem dX12_does_4 : decode cX12_does 4 = .ok (.aload_n 0, 1) := by decide +kernel
theorem dX12_does_5 : decode cX12_does 5 = .ok (.iload_n 2, 1) := by decide +kernel
theorem dX12_does_6 : decode cX12_does 6 = .ok (.iload_n 3, 1) := by decide +kernel
theorem dX12_does_7 : decode cX12_does 7 = .ok (.bipush 10, 2) := by decide +kernel
theorem dX12_does_9 : decode cX12_does 9 = .ok (.iload 4, 2) := by decide +kernel
theorem dX12_does_11 : decode cX12_does 11 = .ok (.iconst 0, 1) := by decide +kernel
theorem dX12_does_12 : decode cX12_does 12 = .ok (.invokevirtual 346, 3) := by decide +kernel
theorem dX12_does_15 : decode cX12_does 15 = .ok (.iload_n 1, 1) := by decide +kernel
theorem dX12_does_16 : decode cX12_does 16 = .ok (.iconst 1, 1) := by decide +kernel
theorem dX12_does_17 : decode cX12_does 17 = .ok (.if_icmp .ne 9, 3) := by decide +kernel
theorem dX12_does_20 : decode cX12_does 20 = .ok (.aload_n 0, 1) := by decide +kernel
theorem dX12_does_21 : decode cX12_does 21 = .ok (.iload_n 2, 1) := by decide +kernel
theorem dX12_does_22 : decode cX12_does 22 = .ok (.iconst 1, 1) := by decide +kernel
theorem dX12_does_23 : decode cX12_does 23 = .ok (.invokevirtual 350, 3) := by decide +kernel
theorem dX12_does_26 : decode cX12_does 26 = .ok (.iload_n 1, 1) := by decide +kernel
theorem dX12_does_27 : decode cX12_does 27 = .ok (.iconst 2, 1) := by decide +kernel
theorem dX12_does_28 : decode cX12_does 28 = .ok (.if_icmp .ne 30, 3) := by decide +kernel
theorem dX12_does_31 : decode cX12_does 31 = .ok (.aload_n 0, 1) := by decide +kernel
theorem dX12_does_32 : decode cX12_does 32 = .ok (.getfield 7, 3) := by decide +kernel
theorem dX12_does_35 : decode cX12_does 35 = .ok (.bipush 92, 2) := by decide +kernel
theorem dX12_does_37 : decode cX12_does 37 = .ok (.iload_n 2, 1) := by decide +kernel
theorem dX12_does_38 : decode cX12_does 38 = .ok (.iadd, 1) := by decide +kernel
theorem dX12_does_39 : decode cX12_does 39 = .ok (.aload_n 0, 1) := by decide +kernel
theorem dX12_does_40 : decode cX12_does 40 = .ok (.aload_n 0, 1) := by decide +kernel
theorem dX12_does_41 : decode cX12_does 41 = .ok (.getfield 7, 3) := by decide +kernel
theorem dX12_does_44 : decode cX12_does 44 = .ok (.bipush 92, 2) := by decide +kernel
theorem dX12_does_46 : decode cX12_does 46 = .ok (.iload_n 2, 1) := by decide +kernel
theorem dX12_does_47 : decode cX12_does 47 = .ok (.iadd, 1) := by decide +kernel
theorem dX12_does_48 : decode cX12_does 48 = .ok (.iaload, 1) := by decide +kernel
theorem dX12_does_49 : decode cX12_does 49 = .ok (.iload_n 3, 1) := by decide +kernel
theorem dX12_does_50 : decode cX12_does 50 = .ok (.iadd, 1) := by decide +kernel
theorem dX12_does_51 : decode cX12_does 51 = .ok (.iconst 0, 1) := by decide +kernel
theorem dX12_does_52 : decode cX12_does 52 = .ok (.bipush 99, 2) := by decide +kernel
theorem dX12_does_54 : decode cX12_does 54 = .ok (.invokevirtual 336, 3) := by decide +kernel
theorem dX12_does_57 : decode cX12_does 57 = .ok (.iastore, 1) := by decide +kernel
theorem dX12_does_58 : decode cX12_does 58 = .ok (.iload_n 1, 1) := by decide +kernel
theorem dX12_does_59 : decode cX12_does 59 = .ok (.iconst 3, 1) := by decide +kernel
theorem dX12_does_60 : decode cX12_does 60 = .ok (.if_icmp .ne 11, 3) := by decide +kernel
theorem dX12_does_63 : decode cX12_does 63 = .ok (.aload_n 0, 1) := by decide +kernel
theorem dX12_does_64 : decode cX12_does 64 = .ok (.iload_n 2, 1) := by decide +kernel
theorem dX12_does_65 : decode cX12_does 65 = .ok (.iload_n 3, 1) := by decide +kernel
theorem dX12_does_66 : decode cX12_does 66 = .ok (.iload 4, 2) := by decide +kernel
theorem dX12_does_68 : decode cX12_does 68 = .ok (.invokevirtual 138, 3) := by decide +kernel
theorem dX12_does_71 : decode cX12_does 71 = .ok (.return_, 1) := by decide +kernel
theorem dX12_acts_0 : decode cX12_acts 0 = .ok (.aload_n 0, 1) := by decide +kernel
theorem dX12_acts_1 : decode cX12_acts 1 = .ok (.iload_n 1, 1) := by decide +kernel
theorem dX12_acts_2 : decode cX12_acts 2 = .ok (.iload_n 2, 1) := by decide +kernel
theorem dX12_acts_3 : decode cX12_acts 3 = .ok (.invokevirtual 353, 3) := by decide +kernel
theorem dX12_acts_6 : decode cX12_acts 6 = .ok (.ifCond .ne 5, 3) := by decide +kernel
theorem dX12_acts_9 : decode cX12_acts 9 = .ok (.iconst 0, 1) := by decide +kernel
theorem dX12_acts_10 : decode cX12_acts 10 = .ok (.ireturn, 1) := by decide +kernel
theorem dX12_acts_11 : decode cX12_acts 11 = .ok (.aload_n 0, 1) := by decide +kernel
theorem dX12_acts_12 : decode cX12_acts 12 = .ok (.invokevirtual 357, 3) := by decide +kernel
theorem dX12_acts_15 : decode cX12_acts 15 = .ok (.aload_n 0, 1) := by decide +kernel
theorem dX12_acts_16 : decode cX12_acts 16 = .ok (.iload_n 1, 1) := by decide +kernel
theorem dX12_acts_17 : decode cX12_acts 17 = .ok (.iload_n 2, 1) := by decide +kernel
theorem dX12_acts_18 : decode cX12_acts 18 = .ok (.iload_n 3, 1) := by decide +kernel
theorem dX12_acts_19 : decode cX12_acts 19 = .ok (.iload 4, 2) := by decide +kernel
theorem dX12_acts_21 : decode cX12_acts 21 = .ok (.invokevirtual 360, 3) := by decide +kernel
theorem dX12_acts_24 : decode cX12_acts 24 = .ok (.iconst 1, 1) := by decide +kernel
theorem dX12_acts_25 : decode cX12_acts 25 = .ok (.ireturn, 1) := by decide +kernel
theorem dX12_pot_0 : decode cX12_pot 0 = .ok (.aload_n 0, 1) := by decide +kernel
theorem dX12_pot_1 : decode cX12_pot 1 = .ok (.iconst 0, 1) := by decide +kernel
theorem dX12_pot_2 : decode cX12_pot 2 = .ok (.putfield 113, 3) := by decide +kernel
theorem dX12_pot_5 : decode cX12_pot 5 = .ok (.aload_n 0, 1) := by decide +kernel
theorem dX12_pot_6 : decode cX12_pot 6 = .ok (.iload_n 1, 1) := by decide +kernel
theorem dX12_pot_7 : decode cX12_pot 7 = .ok (.invokevirtual 156, 3) := by decide +kernel
theorem dX12_pot_10 : decode cX12_pot 10 = .ok (.ifCond .eq 37, 3) := by decide +kernel
theorem dX12_pot_13 : decode cX12_pot 13 = .ok (.aload_n 0, 1) := by decide +kernel
theorem dX12_pot_14 : decode cX12_pot 14 = .ok (.iload_n 2, 1) := by decide +kernel
theorem dX12_pot_15 : decode cX12_pot 15 = .ok (.invokevirtual 146, 3) := by decide +kernel
theorem dX12_pot_18 : decode cX12_pot 18 = .ok (.ifCond .eq 29, 3) := by decide +kernel
theorem dX12_pot_21 : decode cX12_pot 21 = .ok (.aload_n 0, 1) := by decide +kernel
theorem dX12_pot_22 : decode cX12_pot 22 = .ok (.iload_n 3, 1) := by decide +kernel
theorem dX12_pot_23 : decode cX12_pot 23 = .ok (.iconst 0, 1) := by decide +kernel
theorem dX12_pot_24 : decode cX12_pot 24 = .ok (.bipush 9, 2) := by decide +kernel
theorem dX12_pot_26 : decode cX12_pot 26 = .ok (.invokevirtual 142, 3) := by decide +kernel
theorem dX12_pot_29 : decode cX12_pot 29 = .ok (.ifCond .eq 18, 3) := by decide +kernel
theorem dX12_pot_32 : decode cX12_pot 32 = .ok (.aload_n 0, 1) := by decide +kernel
theorem dX12_pot_33 : decode cX12_pot 33 = .ok (.iconst 0, 1) := by decide +kernel
theorem dX12_pot_34 : decode cX12_pot 34 = .ok (.iload_n 1, 1) := by decide +kernel
theorem dX12_pot_35 : decode cX12_pot 35 = .ok (.iload_n 2, 1) := by decide +kernel
theorem dX12_pot_36 : decode cX12_pot 36 = .ok (.iload_n 3, 1) := by decide +kernel
theorem dX12_pot_37 : decode cX12_pot 37 = .ok (.invokevirtual 364, 3) := by decide +kernel
theorem dX12_pot_40 : decode cX12_pot 40 = .ok (.ifCond .eq 7, 3) := by decide +kernel
theorem dX12_pot_43 : decode cX12_pot 43 = .ok (.iconst 1, 1) := by decide +kernel
theorem dX12_pot_44 : decode cX12_pot 44 = .ok (.goto 4, 3) := by decide +kernel
theorem dX12_pot_47 : decode cX12_pot 47 = .ok (.iconst 0, 1) := by decide +kernel
theorem dX12_pot_48 : decode cX12_pot 48 = .ok (.ireturn, 1) := by decide +kernel
theorem dX12_water_0 : decode cX12_water 0 = .ok (.aload_n 0, 1) := by decide +kernel
theorem dX12_water_1 : decode cX12_water 1 = .ok (.iconst 0, 1) := by decide +kernel
theorem dX12_water_2 : decode cX12_water 2 = .ok (.putfield 113, 3) := by decide +kernel
theorem dX12_water_5 : decode cX12_water 5 = .ok (.aload_n 0, 1) := by decide +kernel
theorem dX12_water_6 : decode cX12_water 6 = .ok (.iload_n 1, 1) := by decide +kernel
theorem dX12_water_7 : decode cX12_water 7 = .ok (.invokevirtual 156, 3) := by decide +kernel
theorem dX12_water_10 : decode cX12_water 10 = .ok (.ifCond .eq 29, 3) := by decide +kernel
theorem dX12_water_13 : decode cX12_water 13 = .ok (.aload_n 0, 1) := by decide +kernel
theorem dX12_water_14 : decode cX12_water 14 = .ok (.iload_n 2, 1) := by decide +kernel
theorem dX12_water_15 : decode cX12_water 15 = .ok (.iconst 1, 1) := by decide +kernel
theorem dX12_water_16 : decode cX12_water 16 = .ok (.bipush 99, 2) := by decide +kernel
theorem dX12_water_18 : decode cX12_water 18 = .ok (.invokevirtual 142, 3) := by decide +kernel
theorem dX12_water_21 : decode cX12_water 21 = .ok (.ifCond .eq 18, 3) := by decide +kernel
theorem dX12_water_24 : decode cX12_water 24 = .ok (.aload_n 0, 1) := by decide +kernel
theorem dX12_water_25 : decode cX12_water 25 = .ok (.iconst 2, 1) := by decide +kernel
theorem dX12_water_26 : decode cX12_water 26 = .ok (.iload_n 1, 1) := by decide +kernel
theorem dX12_water_27 : decode cX12_water 27 = .ok (.iload_n 2, 1) := by decide +kernel
theorem dX12_water_28 : decode cX12_water 28 = .ok (.iconst 0, 1) := by decide +kernel
theorem dX12_water_29 : decode cX12_water 29 = .ok (.invokevirtual 364, 3) := by decide +kernel
theorem dX12_water_32 : decode cX12_water 32 = .ok (.ifCond .eq 7, 3) := by decide +kernel
theorem dX12_water_35 : decode cX12_water 35 = .ok (.iconst 1, 1) := by decide +kernel
theorem dX12_water_36 : decode cX12_water 36 = .ok (.goto 4, 3) := by decide +kernel
theorem dX12_water_39 : decode cX12_water 39 = .ok (.iconst 0, 1) := by decide +kernel
theorem dX12_water_40 : decode cX12_water 40 = .ok (.ireturn, 1) := by decide +kernel
theorem dX12_weed_0 : decode cX12_weed 0 = .ok (.aload_n 0, 1) := by decide +kernel
theorem dX12_weed_1 : decode cX12_weed 1 = .ok (.iconst 0, 1) := by decide +kernel
theorem dX12_weed_2 : decode cX12_weed 2 = .ok (.putfield 113, 3) := by decide +kernel
theorem dX12_weed_5 : decode cX12_weed 5 = .ok (.aload_n 0, 1) := by decide +kernel
theorem dX12_weed_6 : decode cX12_weed 6 = .ok (.iload_n 1, 1) := by decide +kernel
theorem dX12_weed_7 : decode cX12_weed 7 = .ok (.invokevirtual 156, 3) := by decide +kernel
theorem dX12_weed_10 : decode cX12_weed 10 = .ok (.ifCond .eq 18, 3) := by decide +kernel
theorem dX12_weed_13 : decode cX12_weed 13 = .ok (.aload_n 0, 1) := by decide +kernel
theorem dX12_weed_14 : decode cX12_weed 14 = .ok (.iconst 1, 1) := by decide +kernel
theorem dX12_weed_15 : decode cX12_weed 15 = .ok (.iload_n 1, 1) := by decide +kernel
theorem dX12_weed_16 : decode cX12_weed 16 = .ok (.iconst 0, 1) := by decide +kernel
theorem dX12_weed_17 : decode cX12_weed 17 = .ok (.iconst 0, 1) := by decide +kernel
theorem dX12_weed_18 : decode cX12_weed 18 = .ok (.invokevirtual 364, 3) := by decide +kernel
theorem dX12_weed_21 : decode cX12_weed 21 = .ok (.ifCond .eq 7, 3) := by decide +kernel
theorem dX12_weed_24 : decode cX12_weed 24 = .ok (.iconst 1, 1) := by decide +kernel
theorem dX12_weed_25 : decode cX12_weed 25 = .ok (.goto 4, 3) := by decide +kernel
theorem dX12_weed_28 : decode cX12_weed 28 = .ok (.iconst 0, 1) := by decide +kernel
theorem dX12_weed_29 : decode cX12_weed 29 = .ok (.ireturn, 1) := by decide +kernel
theorem dX12_tell_0 : decode cX12_tell 0 = .ok (.aload_n 0, 1) := by decide +kernel
theorem dX12_tell_1 : decode cX12_tell 1 = .ok (.iconst 0, 1) := by decide +kernel
theorem dX12_tell_2 : decode cX12_tell 2 = .ok (.putfield 113, 3) := by decide +kernel
theorem dX12_tell_5 : decode cX12_tell 5 = .ok (.aload_n 0, 1) := by decide +kernel
theorem dX12_tell_6 : decode cX12_tell 6 = .ok (.iload_n 1, 1) := by decide +kernel
theorem dX12_tell_7 : decode cX12_tell 7 = .ok (.invokevirtual 156, 3) := by decide +kernel
theorem dX12_tell_10 : decode cX12_tell 10 = .ok (.ifCond .eq 37, 3) := by decide +kernel
theorem dX12_tell_13 : decode cX12_tell 13 = .ok (.aload_n 0, 1) := by decide +kernel
theorem dX12_tell_14 : decode cX12_tell 14 = .ok (.iload_n 2, 1) := by decide +kernel
theorem dX12_tell_15 : decode cX12_tell 15 = .ok (.invokevirtual 146, 3) := by decide +kernel
theorem dX12_tell_18 : decode cX12_tell 18 = .ok (.ifCond .eq 29, 3) := by decide +kernel
theorem dX12_tell_21 : decode cX12_tell 21 = .ok (.aload_n 0, 1) := by decide +kernel
theorem dX12_tell_22 : decode cX12_tell 22 = .ok (.iload_n 3, 1) := by decide +kernel
theorem dX12_tell_23 : decode cX12_tell 23 = .ok (.iconst 0, 1) := by decide +kernel
theorem dX12_tell_24 : decode cX12_tell 24 = .ok (.bipush 100, 2) := by decide +kernel
theorem dX12_tell_26 : decode cX12_tell 26 = .ok (.invokevirtual 142, 3) := by decide +kernel
theorem dX12_tell_29 : decode cX12_tell 29 = .ok (.ifCond .eq 18, 3) := by decide +kernel
theorem dX12_tell_32 : decode cX12_tell 32 = .ok (.aload_n 0, 1) := by decide +kernel
theorem dX12_tell_33 : decode cX12_tell 33 = .ok (.iconst 3, 1) := by decide +kernel
theorem dX12_tell_34 : decode cX12_tell 34 = .ok (.iload_n 1, 1) := by decide +kernel
theorem dX12_tell_35 : decode cX12_tell 35 = .ok (.iload_n 2, 1) := by decide +kernel
theorem dX12_tell_36 : decode cX12_tell 36 = .ok (.iload_n 3, 1) := by decide +kernel
theorem dX12_tell_37 : decode cX12_tell 37 = .ok (.invokevirtual 364, 3) := by decide +kernel
theorem dX12_tell_40 : decode cX12_tell 40 = .ok (.ifCond .eq 7, 3) := by decide +kernel
theorem dX12_tell_43 : decode cX12_tell 43 = .ok (.iconst 1, 1) := by decide +kernel
theorem dX12_tell_44 : decode cX12_tell 44 = .ok (.goto 4, 3) := by decide +kernel
theorem dX12_tell_47 : decode cX12_tell 47 = .ok (.iconst 0, 1) := by decide +kernel
theorem dX12_tell_48 : decode cX12_tell 48 = .ok (.ireturn, 1) := by decide +kernel
theorem dX12_ofReason_0 : decode cX12_ofReason 0 = .ok (.aload_n 0, 1) := by decide +kernel
theorem dX12_ofReason_1 : decode cX12_ofReason 1 = .ok (.getfield 62, 3) := by decide +kernel
theorem dX12_ofReason_4 : decode cX12_ofReason 4 = .ok (.iconst 3, 1) := by decide +kernel
theorem dX12_ofReason_5 : decode cX12_ofReason 5 = .ok (.iload_n 1, 1) := by decide +kernel
theorem dX12_ofReason_6 : decode cX12_ofReason 6 = .ok (.imul, 1) := by decide +kernel
theorem dX12_ofReason_7 : decode cX12_ofReason 7 = .ok (.iload_n 2, 1) := by decide +kernel
theorem dX12_ofReason_8 : decode cX12_ofReason 8 = .ok (.iadd, 1) := by decide +kernel
theorem dX12_ofReason_9 : decode cX12_ofReason 9 = .ok (.iaload, 1) := by decide +kernel
theorem dX12_ofReason_10 : decode cX12_ofReason 10 = .ok (.ireturn, 1) := by decide +kernel
theorem dX12_reasonsAt_0 : decode cX12_reasonsAt 0 = .ok (.iconst 0, 1) := by decide +kernel
theorem dX12_reasonsAt_1 : decode cX12_reasonsAt 1 = .ok (.istore_n 2, 1) := by decide +kernel
theorem dX12_reasonsAt_2 : decode cX12_reasonsAt 2 = .ok (.iload_n 2, 1) := by decide +kernel
theorem dX12_reasonsAt_3 : decode cX12_reasonsAt 3 = .ok (.aload_n 0, 1) := by decide +kernel
theorem dX12_reasonsAt_4 : decode cX12_reasonsAt 4 = .ok (.getfield 297, 3) := by decide +kernel
theorem dX12_reasonsAt_7 : decode cX12_reasonsAt 7 = .ok (.if_icmp .ge 68, 3) := by decide +kernel
theorem dX12_reasonsAt_10 : decode cX12_reasonsAt 10 = .ok (.aload_n 0, 1) := by decide +kernel
theorem dX12_reasonsAt_11 : decode cX12_reasonsAt 11 = .ok (.iload_n 2, 1) := by decide +kernel
theorem dX12_reasonsAt_12 : decode cX12_reasonsAt 12 = .ok (.iconst 0, 1) := by decide +kernel
theorem dX12_reasonsAt_13 : decode cX12_reasonsAt 13 = .ok (.invokevirtual 368, 3) := by decide +kernel
theorem dX12_reasonsAt_16 : decode cX12_reasonsAt 16 = .ok (.istore_n 3, 1) := by decide +kernel
theorem dX12_reasonsAt_17 : decode cX12_reasonsAt 17 = .ok (.aload_n 0, 1) := by decide +kernel
theorem dX12_reasonsAt_18 : decode cX12_reasonsAt 18 = .ok (.iload_n 2, 1) := by decide +kernel
theorem dX12_reasonsAt_19 : decode cX12_reasonsAt 19 = .ok (.iconst 2, 1) := by decide +kernel
theorem dX12_reasonsAt_20 : decode cX12_reasonsAt 20 = .ok (.invokevirtual 368, 3) := by decide +kernel
theorem dX12_reasonsAt_23 : decode cX12_reasonsAt 23 = .ok (.ifCond .le 46, 3) := by decide +kernel
theorem dX12_reasonsAt_26 : decode cX12_reasonsAt 26 = .ok (.aload_n 0, 1) := by decide +kernel
theorem dX12_reasonsAt_27 : decode cX12_reasonsAt 27 = .ok (.iload_n 2, 1) := by decide +kernel
theorem dX12_reasonsAt_28 : decode cX12_reasonsAt 28 = .ok (.iconst 1, 1) := by decide +kernel
theorem dX12_reasonsAt_29 : decode cX12_reasonsAt 29 = .ok (.invokevirtual 368, 3) := by decide +kernel
theorem dX12_reasonsAt_32 : decode cX12_reasonsAt 32 = .ok (.aload_n 0, 1) := by decide +kernel
theorem dX12_reasonsAt_33 : decode cX12_reasonsAt 33 = .ok (.iload_n 1, 1) := by decide +kernel
theorem dX12_reasonsAt_34 : decode cX12_reasonsAt 34 = .ok (.invokevirtual 327, 3) := by decide +kernel
theorem dX12_reasonsAt_37 : decode cX12_reasonsAt 37 = .ok (.iconst (-1), 1) := by decide +kernel
theorem dX12_reasonsAt_38 : decode cX12_reasonsAt 38 = .ok (.ixor, 1) := by decide +kernel
theorem dX12_reasonsAt_39 : decode cX12_reasonsAt 39 = .ok (.iand, 1) := by decide +kernel
theorem dX12_reasonsAt_40 : decode cX12_reasonsAt 40 = .ok (.ifCond .ne 29, 3) := by decide +kernel
theorem dX12_reasonsAt_43 : decode cX12_reasonsAt 43 = .ok (.aload_n 0, 1) := by decide +kernel
theorem dX12_reasonsAt_44 : decode cX12_reasonsAt 44 = .ok (.iload_n 1, 1) := by decide +kernel
theorem dX12_reasonsAt_45 : decode cX12_reasonsAt 45 = .ok (.iload_n 3, 1) := by decide +kernel
theorem dX12_reasonsAt_46 : decode cX12_reasonsAt 46 = .ok (.aload_n 0, 1) := by decide +kernel
theorem dX12_reasonsAt_47 : decode cX12_reasonsAt 47 = .ok (.aload_n 0, 1) := by decide +kernel
theorem dX12_reasonsAt_48 : decode cX12_reasonsAt 48 = .ok (.iload_n 1, 1) := by decide +kernel
theorem dX12_reasonsAt_49 : decode cX12_reasonsAt 49 = .ok (.iload_n 3, 1) := by decide +kernel
theorem dX12_reasonsAt_50 : decode cX12_reasonsAt 50 = .ok (.invokevirtual 134, 3) := by decide +kernel
theorem dX12_reasonsAt_53 : decode cX12_reasonsAt 53 = .ok (.aload_n 0, 1) := by decide +kernel
theorem dX12_reasonsAt_54 : decode cX12_reasonsAt 54 = .ok (.iload_n 2, 1) := by decide +kernel
theorem dX12_reasonsAt_55 : decode cX12_reasonsAt 55 = .ok (.iconst 2, 1) := by decide +kernel
theorem dX12_reasonsAt_56 : decode cX12_reasonsAt 56 = .ok (.invokevirtual 368, 3) := by decide +kernel
theorem dX12_reasonsAt_59 : decode cX12_reasonsAt 59 = .ok (.iadd, 1) := by decide +kernel
theorem dX12_reasonsAt_60 : decode cX12_reasonsAt 60 = .ok (.iconst 0, 1) := by decide +kernel
theorem dX12_reasonsAt_61 : decode cX12_reasonsAt 61 = .ok (.bipush 100, 2) := by decide +kernel
theorem dX12_reasonsAt_63 : decode cX12_reasonsAt 63 = .ok (.invokevirtual 336, 3) := by decide +kernel
theorem dX12_reasonsAt_66 : decode cX12_reasonsAt 66 = .ok (.invokevirtual 138, 3) := by decide +kernel
theorem dX12_reasonsAt_69 : decode cX12_reasonsAt 69 = .ok (.iinc 2 1, 3) := by decide +kernel
theorem dX12_reasonsAt_72 : decode cX12_reasonsAt 72 = .ok (.goto (-70), 3) := by decide +kernel
theorem dX12_reasonsAt_75 : decode cX12_reasonsAt 75 = .ok (.return_, 1) := by decide +kernel
theorem dX12_grows_0 : decode cX12_grows 0 = .ok (.aload_n 0, 1) := by decide +kernel
theorem dX12_grows_1 : decode cX12_grows 1 = .ok (.iload_n 1, 1) := by decide +kernel
theorem dX12_grows_2 : decode cX12_grows 2 = .ok (.invokevirtual 371, 3) := by decide +kernel
theorem dX12_grows_5 : decode cX12_grows 5 = .ok (.aload_n 0, 1) := by decide +kernel
theorem dX12_grows_6 : decode cX12_grows 6 = .ok (.invokevirtual 374, 3) := by decide +kernel
theorem dX12_grows_9 : decode cX12_grows 9 = .ok (.istore_n 2, 1) := by decide +kernel
theorem dX12_grows_10 : decode cX12_grows 10 = .ok (.aload_n 0, 1) := by decide +kernel
theorem dX12_grows_11 : decode cX12_grows 11 = .ok (.invokevirtual 377, 3) := by decide +kernel
theorem dX12_grows_14 : decode cX12_grows 14 = .ok (.istore_n 3, 1) := by decide +kernel
theorem dX12_grows_15 : decode cX12_grows 15 = .ok (.aload_n 0, 1) := by decide +kernel
theorem dX12_grows_16 : decode cX12_grows 16 = .ok (.iload_n 1, 1) := by decide +kernel
theorem dX12_grows_17 : decode cX12_grows 17 = .ok (.invokevirtual 324, 3) := by decide +kernel
theorem dX12_grows_20 : decode cX12_grows 20 = .ok (.istore 4, 2) := by decide +kernel
theorem dX12_grows_22 : decode cX12_grows 22 = .ok (.aload_n 0, 1) := by decide +kernel
theorem dX12_grows_23 : decode cX12_grows 23 = .ok (.iload_n 1, 1) := by decide +kernel
theorem dX12_grows_24 : decode cX12_grows 24 = .ok (.iload 4, 2) := by decide +kernel
theorem dX12_grows_26 : decode cX12_grows 26 = .ok (.aload_n 0, 1) := by decide +kernel
theorem dX12_grows_27 : decode cX12_grows 27 = .ok (.iconst 0, 1) := by decide +kernel
theorem dX12_grows_28 : decode cX12_grows 28 = .ok (.aload_n 0, 1) := by decide +kernel
theorem dX12_grows_29 : decode cX12_grows 29 = .ok (.iload_n 1, 1) := by decide +kernel
theorem dX12_grows_30 : decode cX12_grows 30 = .ok (.iload 4, 2) := by decide +kernel
theorem dX12_grows_32 : decode cX12_grows 32 = .ok (.invokevirtual 134, 3) := by decide +kernel
theorem dX12_grows_35 : decode cX12_grows 35 = .ok (.iload_n 2, 1) := by decide +kernel
theorem dX12_grows_36 : decode cX12_grows 36 = .ok (.isub, 1) := by decide +kernel
theorem dX12_grows_37 : decode cX12_grows 37 = .ok (.invokevirtual 380, 3) := by decide +kernel
theorem dX12_grows_40 : decode cX12_grows 40 = .ok (.invokevirtual 138, 3) := by decide +kernel
theorem dX12_grows_43 : decode cX12_grows 43 = .ok (.aload_n 0, 1) := by decide +kernel
theorem dX12_grows_44 : decode cX12_grows 44 = .ok (.getfield 7, 3) := by decide +kernel
theorem dX12_grows_47 : decode cX12_grows 47 = .ok (.bipush 76, 2) := by decide +kernel
theorem dX12_grows_49 : decode cX12_grows 49 = .ok (.iload_n 1, 1) := by decide +kernel
theorem dX12_grows_50 : decode cX12_grows 50 = .ok (.iadd, 1) := by decide +kernel
theorem dX12_grows_51 : decode cX12_grows 51 = .ok (.aload_n 0, 1) := by decide +kernel
theorem dX12_grows_52 : decode cX12_grows 52 = .ok (.aload_n 0, 1) := by decide +kernel
theorem dX12_grows_53 : decode cX12_grows 53 = .ok (.getfield 7, 3) := by decide +kernel
theorem dX12_grows_56 : decode cX12_grows 56 = .ok (.bipush 76, 2) := by decide +kernel
theorem dX12_grows_58 : decode cX12_grows 58 = .ok (.iload_n 1, 1) := by decide +kernel
theorem dX12_grows_59 : decode cX12_grows 59 = .ok (.iadd, 1) := by decide +kernel
theorem dX12_grows_60 : decode cX12_grows 60 = .ok (.iaload, 1) := by decide +kernel
theorem dX12_grows_61 : decode cX12_grows 61 = .ok (.iload_n 3, 1) := by decide +kernel
theorem dX12_grows_62 : decode cX12_grows 62 = .ok (.iadd, 1) := by decide +kernel
theorem dX12_grows_63 : decode cX12_grows 63 = .ok (.bipush (-99), 2) := by decide +kernel
theorem dX12_grows_65 : decode cX12_grows 65 = .ok (.bipush 99, 2) := by decide +kernel
theorem dX12_grows_67 : decode cX12_grows 67 = .ok (.invokevirtual 336, 3) := by decide +kernel
theorem dX12_grows_70 : decode cX12_grows 70 = .ok (.iastore, 1) := by decide +kernel
theorem dX12_grows_71 : decode cX12_grows 71 = .ok (.aload_n 0, 1) := by decide +kernel
theorem dX12_grows_72 : decode cX12_grows 72 = .ok (.getfield 7, 3) := by decide +kernel
theorem dX12_grows_75 : decode cX12_grows 75 = .ok (.bipush 92, 2) := by decide +kernel
theorem dX12_grows_77 : decode cX12_grows 77 = .ok (.iload_n 1, 1) := by decide +kernel
theorem dX12_grows_78 : decode cX12_grows 78 = .ok (.iadd, 1) := by decide +kernel
theorem dX12_grows_79 : decode cX12_grows 79 = .ok (.iconst 0, 1) := by decide +kernel
theorem dX12_grows_80 : decode cX12_grows 80 = .ok (.iastore, 1) := by decide +kernel
theorem dX12_grows_81 : decode cX12_grows 81 = .ok (.aload_n 0, 1) := by decide +kernel
theorem dX12_grows_82 : decode cX12_grows 82 = .ok (.getfield 7, 3) := by decide +kernel
theorem dX12_grows_85 : decode cX12_grows 85 = .ok (.bipush 76, 2) := by decide +kernel
theorem dX12_grows_87 : decode cX12_grows 87 = .ok (.iload_n 1, 1) := by decide +kernel
theorem dX12_grows_88 : decode cX12_grows 88 = .ok (.iadd, 1) := by decide +kernel
theorem dX12_grows_89 : decode cX12_grows 89 = .ok (.iaload, 1) := by decide +kernel
theorem dX12_grows_90 : decode cX12_grows 90 = .ok (.iconst 1, 1) := by decide +kernel
theorem dX12_grows_91 : decode cX12_grows 91 = .ok (.if_icmp .ge 9, 3) := by decide +kernel
theorem dX12_grows_94 : decode cX12_grows 94 = .ok (.aload_n 0, 1) := by decide +kernel
theorem dX12_grows_95 : decode cX12_grows 95 = .ok (.iload_n 1, 1) := by decide +kernel
theorem dX12_grows_96 : decode cX12_grows 96 = .ok (.iconst 2, 1) := by decide +kernel
theorem dX12_grows_97 : decode cX12_grows 97 = .ok (.invokevirtual 350, 3) := by decide +kernel
theorem dX12_grows_100 : decode cX12_grows 100 = .ok (.return_, 1) := by decide +kernel
theorem dX12_freezes_0 : decode cX12_freezes 0 = .ok (.aload_n 0, 1) := by decide +kernel
theorem dX12_freezes_1 : decode cX12_freezes 1 = .ok (.getfield 119, 3) := by decide +kernel
theorem dX12_freezes_4 : decode cX12_freezes 4 = .ok (.ifCond .ne 24, 3) := by decide +kernel
theorem dX12_freezes_7 : decode cX12_freezes 7 = .ok (.aload_n 0, 1) := by decide +kernel
theorem dX12_freezes_8 : decode cX12_freezes 8 = .ok (.getfield 150, 3) := by decide +kernel
theorem dX12_freezes_11 : decode cX12_freezes 11 = .ok (.ifCond .eq 17, 3) := by decide +kernel
theorem dX12_freezes_14 : decode cX12_freezes 14 = .ok (.aload_n 0, 1) := by decide +kernel
theorem dX12_freezes_15 : decode cX12_freezes 15 = .ok (.sipush 1000, 3) := by decide +kernel
theorem dX12_freezes_18 : decode cX12_freezes 18 = .ok (.invokevirtual 383, 3) := by decide +kernel
theorem dX12_freezes_21 : decode cX12_freezes 21 = .ok (.aload_n 0, 1) := by decide +kernel
theorem dX12_freezes_22 : decode cX12_freezes 22 = .ok (.getfield 150, 3) := by decide +kernel
theorem dX12_freezes_25 : decode cX12_freezes 25 = .ok (.if_icmp .lt 4, 3) := by decide +kernel
theorem dX12_freezes_28 : decode cX12_freezes 28 = .ok (.return_, 1) := by decide +kernel
theorem dX12_freezes_29 : decode cX12_freezes 29 = .ok (.iconst 0, 1) := by decide +kernel
theorem dX12_freezes_30 : decode cX12_freezes 30 = .ok (.istore_n 1, 1) := by decide +kernel
theorem dX12_freezes_31 : decode cX12_freezes 31 = .ok (.iload_n 1, 1) := by decide +kernel
theorem dX12_freezes_32 : decode cX12_freezes 32 = .ok (.aload_n 0, 1) := by decide +kernel
theorem dX12_freezes_33 : decode cX12_freezes 33 = .ok (.getfield 131, 3) := by decide +kernel
theorem dX12_freezes_36 : decode cX12_freezes 36 = .ok (.if_icmp .ge 42, 3) := by decide +kernel
theorem dX12_freezes_39 : decode cX12_freezes 39 = .ok (.aload_n 0, 1) := by decide +kernel
theorem dX12_freezes_40 : decode cX12_freezes 40 = .ok (.iload_n 1, 1) := by decide +kernel
theorem dX12_freezes_41 : decode cX12_freezes 41 = .ok (.invokevirtual 324, 3) := by decide +kernel
theorem dX12_freezes_44 : decode cX12_freezes 44 = .ok (.iconst (-1), 1) := by decide +kernel
theorem dX12_freezes_45 : decode cX12_freezes 45 = .ok (.if_icmp .eq 27, 3) := by decide +kernel
theorem dX12_freezes_48 : decode cX12_freezes 48 = .ok (.aload_n 0, 1) := by decide +kernel
theorem dX12_freezes_49 : decode cX12_freezes 49 = .ok (.bipush 10, 2) := by decide +kernel
theorem dX12_freezes_51 : decode cX12_freezes 51 = .ok (.invokevirtual 383, 3) := by decide +kernel
theorem dX12_freezes_54 : decode cX12_freezes 54 = .ok (.aload_n 0, 1) := by decide +kernel
theorem dX12_freezes_55 : decode cX12_freezes 55 = .ok (.getfield 7, 3) := by decide +kernel
theorem dX12_freezes_58 : decode cX12_freezes 58 = .ok (.bipush 84, 2) := by decide +kernel
theorem dX12_freezes_60 : decode cX12_freezes 60 = .ok (.iload_n 1, 1) := by decide +kernel
theorem dX12_freezes_61 : decode cX12_freezes 61 = .ok (.iadd, 1) := by decide +kernel
theorem dX12_freezes_62 : decode cX12_freezes 62 = .ok (.iaload, 1) := by decide +kernel
theorem dX12_freezes_63 : decode cX12_freezes 63 = .ok (.if_icmp .ge 9, 3) := by decide +kernel
theorem dX12_freezes_66 : decode cX12_freezes 66 = .ok (.aload_n 0, 1) := by decide +kernel
theorem dX12_freezes_67 : decode cX12_freezes 67 = .ok (.iload_n 1, 1) := by decide +kernel
theorem dX12_freezes_68 : decode cX12_freezes 68 = .ok (.iconst 3, 1) := by decide +kernel
theorem dX12_freezes_69 : decode cX12_freezes 69 = .ok (.invokevirtual 350, 3) := by decide +kernel
theorem dX12_freezes_72 : decode cX12_freezes 72 = .ok (.iinc 1 1, 3) := by decide +kernel
theorem dX12_freezes_75 : decode cX12_freezes 75 = .ok (.goto (-44), 3) := by decide +kernel
theorem dX12_freezes_78 : decode cX12_freezes 78 = .ok (.return_, 1) := by decide +kernel
theorem dX12_emptyBy_0 : decode cX12_emptyBy 0 = .ok (.iconst 0, 1) := by decide +kernel
theorem dX12_emptyBy_1 : decode cX12_emptyBy 1 = .ok (.istore_n 2, 1) := by decide +kernel
theorem dX12_emptyBy_2 : decode cX12_emptyBy 2 = .ok (.iload_n 2, 1) := by decide +kernel
theorem dX12_emptyBy_3 : decode cX12_emptyBy 3 = .ok (.aload_n 0, 1) := by decide +kernel
theorem dX12_emptyBy_4 : decode cX12_emptyBy 4 = .ok (.getfield 131, 3) := by decide +kernel
theorem dX12_emptyBy_7 : decode cX12_emptyBy 7 = .ok (.if_icmp .ge 34, 3) := by decide +kernel
theorem dX12_emptyBy_10 : decode cX12_emptyBy 10 = .ok (.aload_n 0, 1) := by decide +kernel
theorem dX12_emptyBy_11 : decode cX12_emptyBy 11 = .ok (.getfield 22, 3) := by decide +kernel
theorem dX12_emptyBy_14 : decode cX12_emptyBy 14 = .ok (.iload_n 1, 1) := by decide +kernel
theorem dX12_emptyBy_15 : decode cX12_emptyBy 15 = .ok (.iaload, 1) := by decide +kernel
theorem dX12_emptyBy_16 : decode cX12_emptyBy 16 = .ok (.iload_n 2, 1) := by decide +kernel
theorem dX12_emptyBy_17 : decode cX12_emptyBy 17 = .ok (.ishr, 1) := by decide +kernel
theorem dX12_emptyBy_18 : decode cX12_emptyBy 18 = .ok (.iconst 1, 1) := by decide +kernel
theorem dX12_emptyBy_19 : decode cX12_emptyBy 19 = .ok (.iand, 1) := by decide +kernel
theorem dX12_emptyBy_20 : decode cX12_emptyBy 20 = .ok (.iconst 1, 1) := by decide +kernel
theorem dX12_emptyBy_21 : decode cX12_emptyBy 21 = .ok (.if_icmp .ne 14, 3) := by decide +kernel
theorem dX12_emptyBy_24 : decode cX12_emptyBy 24 = .ok (.aload_n 0, 1) := by decide +kernel
theorem dX12_emptyBy_25 : decode cX12_emptyBy 25 = .ok (.iload_n 2, 1) := by decide +kernel
theorem dX12_emptyBy_26 : decode cX12_emptyBy 26 = .ok (.invokevirtual 324, 3) := by decide +kernel
theorem dX12_emptyBy_29 : decode cX12_emptyBy 29 = .ok (.iconst (-1), 1) := by decide +kernel
theorem dX12_emptyBy_30 : decode cX12_emptyBy 30 = .ok (.if_icmp .ne 5, 3) := by decide +kernel
theorem dX12_emptyBy_33 : decode cX12_emptyBy 33 = .ok (.iload_n 2, 1) := by decide +kernel
theorem dX12_emptyBy_34 : decode cX12_emptyBy 34 = .ok (.ireturn, 1) := by decide +kernel
theorem dX12_emptyBy_35 : decode cX12_emptyBy 35 = .ok (.iinc 2 1, 3) := by decide +kernel
theorem dX12_emptyBy_38 : decode cX12_emptyBy 38 = .ok (.goto (-36), 3) := by decide +kernel
theorem dX12_emptyBy_41 : decode cX12_emptyBy 41 = .ok (.iconst (-1), 1) := by decide +kernel
theorem dX12_emptyBy_42 : decode cX12_emptyBy 42 = .ok (.ireturn, 1) := by decide +kernel
theorem dX12_swarms_0 : decode cX12_swarms 0 = .ok (.aload_n 0, 1) := by decide +kernel
theorem dX12_swarms_1 : decode cX12_swarms 1 = .ok (.sipush 1000, 3) := by decide +kernel
theorem dX12_swarms_4 : decode cX12_swarms 4 = .ok (.invokevirtual 383, 3) := by decide +kernel
theorem dX12_swarms_7 : decode cX12_swarms 7 = .ok (.aload_n 0, 1) := by decide +kernel
theorem dX12_swarms_8 : decode cX12_swarms 8 = .ok (.getfield 153, 3) := by decide +kernel
theorem dX12_swarms_11 : decode cX12_swarms 11 = .ok (.if_icmp .lt 4, 3) := by decide +kernel
theorem dX12_swarms_14 : decode cX12_swarms 14 = .ok (.return_, 1) := by decide +kernel
theorem dX12_swarms_15 : decode cX12_swarms 15 = .ok (.aload_n 0, 1) := by decide +kernel
theorem dX12_swarms_16 : decode cX12_swarms 16 = .ok (.iload_n 1, 1) := by decide +kernel
theorem dX12_swarms_17 : decode cX12_swarms 17 = .ok (.invokevirtual 386, 3) := by decide +kernel
theorem dX12_swarms_20 : decode cX12_swarms 20 = .ok (.istore_n 2, 1) := by decide +kernel
theorem dX12_swarms_21 : decode cX12_swarms 21 = .ok (.aload_n 0, 1) := by decide +kernel
theorem dX12_swarms_22 : decode cX12_swarms 22 = .ok (.iload_n 1, 1) := by decide +kernel
theorem dX12_swarms_23 : decode cX12_swarms 23 = .ok (.invokevirtual 371, 3) := by decide +kernel
theorem dX12_swarms_26 : decode cX12_swarms 26 = .ok (.aload_n 0, 1) := by decide +kernel
theorem dX12_swarms_27 : decode cX12_swarms 27 = .ok (.invokevirtual 389, 3) := by decide +kernel
theorem dX12_swarms_30 : decode cX12_swarms 30 = .ok (.istore_n 3, 1) := by decide +kernel
theorem dX12_swarms_31 : decode cX12_swarms 31 = .ok (.iload_n 2, 1) := by decide +kernel
theorem dX12_swarms_32 : decode cX12_swarms 32 = .ok (.iconst (-1), 1) := by decide +kernel
theorem dX12_swarms_33 : decode cX12_swarms 33 = .ok (.if_icmp .eq 28, 3) := by decide +kernel
theorem dX12_swarms_36 : decode cX12_swarms 36 = .ok (.iload_n 3, 1) := by decide +kernel
theorem dX12_swarms_37 : decode cX12_swarms 37 = .ok (.ifCond .le 24, 3) := by decide +kernel
theorem dX12_swarms_40 : decode cX12_swarms 40 = .ok (.aload_n 0, 1) := by decide +kernel
theorem dX12_swarms_41 : decode cX12_swarms 41 = .ok (.iload_n 2, 1) := by decide +kernel
theorem dX12_swarms_42 : decode cX12_swarms 42 = .ok (.aload_n 0, 1) := by decide +kernel
theorem dX12_swarms_43 : decode cX12_swarms 43 = .ok (.iload_n 1, 1) := by decide +kernel
theorem dX12_swarms_44 : decode cX12_swarms 44 = .ok (.invokevirtual 324, 3) := by decide +kernel
theorem dX12_swarms_47 : decode cX12_swarms 47 = .ok (.iload_n 3, 1) := by decide +kernel
theorem dX12_swarms_48 : decode cX12_swarms 48 = .ok (.aload_n 0, 1) := by decide +kernel
theorem dX12_swarms_49 : decode cX12_swarms 49 = .ok (.getfield 7, 3) := by decide +kernel
theorem dX12_swarms_52 : decode cX12_swarms 52 = .ok (.bipush 84, 2) := by decide +kernel
theorem dX12_swarms_54 : decode cX12_swarms 54 = .ok (.iload_n 1, 1) := by decide +kernel
theorem dX12_swarms_55 : decode cX12_swarms 55 = .ok (.iadd, 1) := by decide +kernel
theorem dX12_swarms_56 : decode cX12_swarms 56 = .ok (.iaload, 1) := by decide +kernel
theorem dX12_swarms_57 : decode cX12_swarms 57 = .ok (.iconst 4, 1) := by decide +kernel
theorem dX12_swarms_58 : decode cX12_swarms 58 = .ok (.invokevirtual 346, 3) := by decide +kernel
theorem dX12_swarms_61 : decode cX12_swarms 61 = .ok (.return_, 1) := by decide +kernel
theorem dX12_carriesOn_0 : decode cX12_carriesOn 0 = .ok (.aload_n 0, 1) := by decide +kernel
theorem dX12_carriesOn_1 : decode cX12_carriesOn 1 = .ok (.getfield 119, 3) := by decide +kernel
theorem dX12_carriesOn_4 : decode cX12_carriesOn 4 = .ok (.ifCond .ne 10, 3) := by decide +kernel
theorem dX12_carriesOn_7 : decode cX12_carriesOn 7 = .ok (.aload_n 0, 1) := by decide +kernel
theorem dX12_carriesOn_8 : decode cX12_carriesOn 8 = .ok (.getfield 153, 3) := by decide +kernel
theorem dX12_carriesOn_11 : decode cX12_carriesOn 11 = .ok (.ifCond .ne 4, 3) := by decide +kernel
theorem dX12_carriesOn_14 : decode cX12_carriesOn 14 = .ok (.return_, 1) := by decide +kernel
theorem dX12_carriesOn_15 : decode cX12_carriesOn 15 = .ok (.iconst 0, 1) := by decide +kernel
theorem dX12_carriesOn_16 : decode cX12_carriesOn 16 = .ok (.istore_n 1, 1) := by decide +kernel
theorem dX12_carriesOn_17 : decode cX12_carriesOn 17 = .ok (.iconst 0, 1) := by decide +kernel
theorem dX12_carriesOn_18 : decode cX12_carriesOn 18 = .ok (.istore_n 2, 1) := by decide +kernel
theorem dX12_carriesOn_19 : decode cX12_carriesOn 19 = .ok (.iload_n 2, 1) := by decide +kernel
theorem dX12_carriesOn_20 : decode cX12_carriesOn 20 = .ok (.aload_n 0, 1) := by decide +kernel
theorem dX12_carriesOn_21 : decode cX12_carriesOn 21 = .ok (.getfield 131, 3) := by decide +kernel
theorem dX12_carriesOn_24 : decode cX12_carriesOn 24 = .ok (.if_icmp .ge 38, 3) := by decide +kernel
theorem dX12_carriesOn_27 : decode cX12_carriesOn 27 = .ok (.aload_n 0, 1) := by decide +kernel
theorem dX12_carriesOn_28 : decode cX12_carriesOn 28 = .ok (.iload_n 2, 1) := by decide +kernel
theorem dX12_carriesOn_29 : decode cX12_carriesOn 29 = .ok (.invokevirtual 324, 3) := by decide +kernel
theorem dX12_carriesOn_32 : decode cX12_carriesOn 32 = .ok (.iconst (-1), 1) := by decide +kernel
theorem dX12_carriesOn_33 : decode cX12_carriesOn 33 = .ok (.if_icmp .eq 23, 3) := by decide +kernel
theorem dX12_carriesOn_36 : decode cX12_carriesOn 36 = .ok (.aload_n 0, 1) := by decide +kernel
theorem dX12_carriesOn_37 : decode cX12_carriesOn 37 = .ok (.getfield 7, 3) := by decide +kernel
theorem dX12_carriesOn_40 : decode cX12_carriesOn 40 = .ok (.bipush 76, 2) := by decide +kernel
theorem dX12_carriesOn_42 : decode cX12_carriesOn 42 = .ok (.iload_n 2, 1) := by decide +kernel
theorem dX12_carriesOn_43 : decode cX12_carriesOn 43 = .ok (.iadd, 1) := by decide +kernel
theorem dX12_carriesOn_44 : decode cX12_carriesOn 44 = .ok (.iaload, 1) := by decide +kernel
theorem dX12_carriesOn_45 : decode cX12_carriesOn 45 = .ok (.bipush 50, 2) := by decide +kernel
theorem dX12_carriesOn_47 : decode cX12_carriesOn 47 = .ok (.if_icmp .lt 9, 3) := by decide +kernel
theorem dX12_carriesOn_50 : decode cX12_carriesOn 50 = .ok (.iload_n 1, 1) := by decide +kernel
theorem dX12_carriesOn_51 : decode cX12_carriesOn 51 = .ok (.iconst 1, 1) := by decide +kernel
theorem dX12_carriesOn_52 : decode cX12_carriesOn 52 = .ok (.iload_n 2, 1) := by decide +kernel
theorem dX12_carriesOn_53 : decode cX12_carriesOn 53 = .ok (.ishl, 1) := by decide +kernel
theorem dX12_carriesOn_54 : decode cX12_carriesOn 54 = .ok (.ior, 1) := by decide +kernel
theorem dX12_carriesOn_55 : decode cX12_carriesOn 55 = .ok (.istore_n 1, 1) := by decide +kernel
theorem dX12_carriesOn_56 : decode cX12_carriesOn 56 = .ok (.iinc 2 1, 3) := by decide +kernel
theorem dX12_carriesOn_59 : decode cX12_carriesOn 59 = .ok (.goto (-40), 3) := by decide +kernel
theorem dX12_carriesOn_62 : decode cX12_carriesOn 62 = .ok (.iconst 0, 1) := by decide +kernel
theorem dX12_carriesOn_63 : decode cX12_carriesOn 63 = .ok (.istore_n 2, 1) := by decide +kernel
theorem dX12_carriesOn_64 : decode cX12_carriesOn 64 = .ok (.iload_n 2, 1) := by decide +kernel
theorem dX12_carriesOn_65 : decode cX12_carriesOn 65 = .ok (.aload_n 0, 1) := by decide +kernel
theorem dX12_carriesOn_66 : decode cX12_carriesOn 66 = .ok (.getfield 131, 3) := by decide +kernel
theorem dX12_carriesOn_69 : decode cX12_carriesOn 69 = .ok (.if_icmp .ge 23, 3) := by decide +kernel
theorem dX12_carriesOn_72 : decode cX12_carriesOn 72 = .ok (.iload_n 1, 1) := by decide +kernel
theorem dX12_carriesOn_73 : decode cX12_carriesOn 73 = .ok (.iload_n 2, 1) := by decide +kernel
theorem dX12_carriesOn_74 : decode cX12_carriesOn 74 = .ok (.ishr, 1) := by decide +kernel
theorem dX12_carriesOn_75 : decode cX12_carriesOn 75 = .ok (.iconst 1, 1) := by decide +kernel
theorem dX12_carriesOn_76 : decode cX12_carriesOn 76 = .ok (.iand, 1) := by decide +kernel
theorem dX12_carriesOn_77 : decode cX12_carriesOn 77 = .ok (.iconst 1, 1) := by decide +kernel
theorem dX12_carriesOn_78 : decode cX12_carriesOn 78 = .ok (.if_icmp .ne 8, 3) := by decide +kernel
theorem dX12_carriesOn_81 : decode cX12_carriesOn 81 = .ok (.aload_n 0, 1) := by decide +kernel
theorem dX12_carriesOn_82 : decode cX12_carriesOn 82 = .ok (.iload_n 2, 1) := by decide +kernel
theorem dX12_carriesOn_83 : decode cX12_carriesOn 83 = .ok (.invokevirtual 392, 3) := by decide +kernel
theorem dX12_carriesOn_86 : decode cX12_carriesOn 86 = .ok (.iinc 2 1, 3) := by decide +kernel
theorem dX12_carriesOn_89 : decode cX12_carriesOn 89 = .ok (.goto (-25), 3) := by decide +kernel
theorem dX12_carriesOn_92 : decode cX12_carriesOn 92 = .ok (.return_, 1) := by decide +kernel
theorem dX12_inspects_0 : decode cX12_inspects 0 = .ok (.aload_n 0, 1) := by decide +kernel
theorem dX12_inspects_1 : decode cX12_inspects 1 = .ok (.iconst (-1), 1) := by decide +kernel
theorem dX12_inspects_2 : decode cX12_inspects 2 = .ok (.putfield 395, 3) := by decide +kernel
theorem dX12_inspects_5 : decode cX12_inspects 5 = .ok (.aload_n 0, 1) := by decide +kernel
theorem dX12_inspects_6 : decode cX12_inspects 6 = .ok (.getfield 131, 3) := by decide +kernel
theorem dX12_inspects_9 : decode cX12_inspects 9 = .ok (.iconst 1, 1) := by decide +kernel
theorem dX12_inspects_10 : decode cX12_inspects 10 = .ok (.isub, 1) := by decide +kernel
theorem dX12_inspects_11 : decode cX12_inspects 11 = .ok (.istore_n 1, 1) := by decide +kernel
theorem dX12_inspects_12 : decode cX12_inspects 12 = .ok (.iload_n 1, 1) := by decide +kernel
theorem dX12_inspects_13 : decode cX12_inspects 13 = .ok (.ifCond .lt 30, 3) := by decide +kernel
theorem dX12_inspects_16 : decode cX12_inspects 16 = .ok (.aload_n 0, 1) := by decide +kernel
theorem dX12_inspects_17 : decode cX12_inspects 17 = .ok (.aload_n 0, 1) := by decide +kernel
theorem dX12_inspects_18 : decode cX12_inspects 18 = .ok (.iload_n 1, 1) := by decide +kernel
theorem dX12_inspects_19 : decode cX12_inspects 19 = .ok (.invokevirtual 327, 3) := by decide +kernel
theorem dX12_inspects_22 : decode cX12_inspects 22 = .ok (.invokevirtual 330, 3) := by decide +kernel
theorem dX12_inspects_25 : decode cX12_inspects 25 = .ok (.aload_n 0, 1) := by decide +kernel
theorem dX12_inspects_26 : decode cX12_inspects 26 = .ok (.invokevirtual 398, 3) := by decide +kernel
theorem dX12_inspects_29 : decode cX12_inspects 29 = .ok (.if_icmp .le 8, 3) := by decide +kernel
theorem dX12_inspects_32 : decode cX12_inspects 32 = .ok (.aload_n 0, 1) := by decide +kernel
theorem dX12_inspects_33 : decode cX12_inspects 33 = .ok (.iload_n 1, 1) := by decide +kernel
theorem dX12_inspects_34 : decode cX12_inspects 34 = .ok (.putfield 395, 3) := by decide +kernel
theorem dX12_inspects_37 : decode cX12_inspects 37 = .ok (.iinc 1 (-1), 3) := by decide +kernel
theorem dX12_inspects_40 : decode cX12_inspects 40 = .ok (.goto (-28), 3) := by decide +kernel
theorem dX12_inspects_43 : decode cX12_inspects 43 = .ok (.iconst 0, 1) := by decide +kernel
theorem dX12_inspects_44 : decode cX12_inspects 44 = .ok (.istore_n 1, 1) := by decide +kernel
theorem dX12_inspects_45 : decode cX12_inspects 45 = .ok (.iload_n 1, 1) := by decide +kernel
theorem dX12_inspects_46 : decode cX12_inspects 46 = .ok (.aload_n 0, 1) := by decide +kernel
theorem dX12_inspects_47 : decode cX12_inspects 47 = .ok (.getfield 131, 3) := by decide +kernel
theorem dX12_inspects_50 : decode cX12_inspects 50 = .ok (.if_icmp .ge 57, 3) := by decide +kernel
theorem dX12_inspects_53 : decode cX12_inspects 53 = .ok (.aload_n 0, 1) := by decide +kernel
theorem dX12_inspects_54 : decode cX12_inspects 54 = .ok (.aload_n 0, 1) := by decide +kernel
theorem dX12_inspects_55 : decode cX12_inspects 55 = .ok (.iload_n 1, 1) := by decide +kernel
theorem dX12_inspects_56 : decode cX12_inspects 56 = .ok (.invokevirtual 327, 3) := by decide +kernel
theorem dX12_inspects_59 : decode cX12_inspects 59 = .ok (.invokevirtual 330, 3) := by decide +kernel
theorem dX12_inspects_62 : decode cX12_inspects 62 = .ok (.aload_n 0, 1) := by decide +kernel
theorem dX12_inspects_63 : decode cX12_inspects 63 = .ok (.invokevirtual 398, 3) := by decide +kernel
theorem dX12_inspects_66 : decode cX12_inspects 66 = .ok (.if_icmp .gt 6, 3) := by decide +kernel
theorem dX12_inspects_69 : decode cX12_inspects 69 = .ok (.goto 32, 3) := by decide +kernel
theorem dX12_inspects_72 : decode cX12_inspects 72 = .ok (.aload_n 0, 1) := by decide +kernel
theorem dX12_inspects_73 : decode cX12_inspects 73 = .ok (.getfield 7, 3) := by decide +kernel
theorem dX12_inspects_76 : decode cX12_inspects 76 = .ok (.iconst 3, 1) := by decide +kernel
theorem dX12_inspects_77 : decode cX12_inspects 77 = .ok (.aload_n 0, 1) := by decide +kernel
theorem dX12_inspects_78 : decode cX12_inspects 78 = .ok (.getfield 7, 3) := by decide +kernel
theorem dX12_inspects_81 : decode cX12_inspects 81 = .ok (.iconst 3, 1) := by decide +kernel
theorem dX12_inspects_82 : decode cX12_inspects 82 = .ok (.iaload, 1) := by decide +kernel
theorem dX12_inspects_83 : decode cX12_inspects 83 = .ok (.iconst 1, 1) := by decide +kernel
theorem dX12_inspects_84 : decode cX12_inspects 84 = .ok (.iadd, 1) := by decide +kernel
theorem dX12_inspects_85 : decode cX12_inspects 85 = .ok (.iastore, 1) := by decide +kernel
theorem dX12_inspects_86 : decode cX12_inspects 86 = .ok (.aload_n 0, 1) := by decide +kernel
theorem dX12_inspects_87 : decode cX12_inspects 87 = .ok (.iconst 5, 1) := by decide +kernel
theorem dX12_inspects_88 : decode cX12_inspects 88 = .ok (.iload_n 1, 1) := by decide +kernel
theorem dX12_inspects_89 : decode cX12_inspects 89 = .ok (.aload_n 0, 1) := by decide +kernel
theorem dX12_inspects_90 : decode cX12_inspects 90 = .ok (.aload_n 0, 1) := by decide +kernel
theorem dX12_inspects_91 : decode cX12_inspects 91 = .ok (.iload_n 1, 1) := by decide +kernel
theorem dX12_inspects_92 : decode cX12_inspects 92 = .ok (.invokevirtual 327, 3) := by decide +kernel
theorem dX12_inspects_95 : decode cX12_inspects 95 = .ok (.invokevirtual 330, 3) := by decide +kernel
theorem dX12_inspects_98 : decode cX12_inspects 98 = .ok (.invokevirtual 343, 3) := by decide +kernel
theorem dX12_inspects_101 : decode cX12_inspects 101 = .ok (.iinc 1 1, 3) := by decide +kernel
theorem dX12_inspects_104 : decode cX12_inspects 104 = .ok (.goto (-59), 3) := by decide +kernel
theorem dX12_inspects_107 : decode cX12_inspects 107 = .ok (.return_, 1) := by decide +kernel
theorem dX12_goesBy_0 : decode cX12_goesBy 0 = .ok (.iconst 0, 1) := by decide +kernel
theorem dX12_goesBy_1 : decode cX12_goesBy 1 = .ok (.istore_n 1, 1) := by decide +kernel
theorem dX12_goesBy_2 : decode cX12_goesBy 2 = .ok (.iload_n 1, 1) := by decide +kernel
theorem dX12_goesBy_3 : decode cX12_goesBy 3 = .ok (.aload_n 0, 1) := by decide +kernel
theorem dX12_goesBy_4 : decode cX12_goesBy 4 = .ok (.getfield 300, 3) := by decide +kernel
theorem dX12_goesBy_7 : decode cX12_goesBy 7 = .ok (.if_icmp .ge 87, 3) := by decide +kernel
theorem dX12_goesBy_10 : decode cX12_goesBy 10 = .ok (.iconst 5, 1) := by decide +kernel
theorem dX12_goesBy_11 : decode cX12_goesBy 11 = .ok (.iload_n 1, 1) := by decide +kernel
theorem dX12_goesBy_12 : decode cX12_goesBy 12 = .ok (.imul, 1) := by decide +kernel
theorem dX12_goesBy_13 : decode cX12_goesBy 13 = .ok (.istore_n 2, 1) := by decide +kernel
theorem dX12_goesBy_14 : decode cX12_goesBy 14 = .ok (.aload_n 0, 1) := by decide +kernel
theorem dX12_goesBy_15 : decode cX12_goesBy 15 = .ok (.getfield 68, 3) := by decide +kernel
theorem dX12_goesBy_18 : decode cX12_goesBy 18 = .ok (.iload_n 2, 1) := by decide +kernel
theorem dX12_goesBy_19 : decode cX12_goesBy 19 = .ok (.iaload, 1) := by decide +kernel
theorem dX12_goesBy_20 : decode cX12_goesBy 20 = .ok (.aload_n 0, 1) := by decide +kernel
theorem dX12_goesBy_21 : decode cX12_goesBy 21 = .ok (.getfield 7, 3) := by decide +kernel
theorem dX12_goesBy_24 : decode cX12_goesBy 24 = .ok (.iconst 0, 1) := by decide +kernel
theorem dX12_goesBy_25 : decode cX12_goesBy 25 = .ok (.iaload, 1) := by decide +kernel
theorem dX12_goesBy_26 : decode cX12_goesBy 26 = .ok (.if_icmp .ne 62, 3) := by decide +kernel
theorem dX12_goesBy_29 : decode cX12_goesBy 29 = .ok (.aload_n 0, 1) := by decide +kernel
theorem dX12_goesBy_30 : decode cX12_goesBy 30 = .ok (.aload_n 0, 1) := by decide +kernel
theorem dX12_goesBy_31 : decode cX12_goesBy 31 = .ok (.getfield 68, 3) := by decide +kernel
theorem dX12_goesBy_34 : decode cX12_goesBy 34 = .ok (.iload_n 2, 1) := by decide +kernel
theorem dX12_goesBy_35 : decode cX12_goesBy 35 = .ok (.iconst 1, 1) := by decide +kernel
theorem dX12_goesBy_36 : decode cX12_goesBy 36 = .ok (.iadd, 1) := by decide +kernel
theorem dX12_goesBy_37 : decode cX12_goesBy 37 = .ok (.iaload, 1) := by decide +kernel
theorem dX12_goesBy_38 : decode cX12_goesBy 38 = .ok (.aload_n 0, 1) := by decide +kernel
theorem dX12_goesBy_39 : decode cX12_goesBy 39 = .ok (.getfield 68, 3) := by decide +kernel
theorem dX12_goesBy_42 : decode cX12_goesBy 42 = .ok (.iload_n 2, 1) := by decide +kernel
theorem dX12_goesBy_43 : decode cX12_goesBy 43 = .ok (.iconst 2, 1) := by decide +kernel
theorem dX12_goesBy_44 : decode cX12_goesBy 44 = .ok (.iadd, 1) := by decide +kernel
theorem dX12_goesBy_45 : decode cX12_goesBy 45 = .ok (.iaload, 1) := by decide +kernel
theorem dX12_goesBy_46 : decode cX12_goesBy 46 = .ok (.invokevirtual 353, 3) := by decide +kernel
theorem dX12_goesBy_49 : decode cX12_goesBy 49 = .ok (.ifCond .eq 39, 3) := by decide +kernel
theorem dX12_goesBy_52 : decode cX12_goesBy 52 = .ok (.aload_n 0, 1) := by decide +kernel
theorem dX12_goesBy_53 : decode cX12_goesBy 53 = .ok (.aload_n 0, 1) := by decide +kernel
theorem dX12_goesBy_54 : decode cX12_goesBy 54 = .ok (.getfield 68, 3) := by decide +kernel
theorem dX12_goesBy_57 : decode cX12_goesBy 57 = .ok (.iload_n 2, 1) := by decide +kernel
theorem dX12_goesBy_58 : decode cX12_goesBy 58 = .ok (.iconst 1, 1) := by decide +kernel
theorem dX12_goesBy_59 : decode cX12_goesBy 59 = .ok (.iadd, 1) := by decide +kernel
theorem dX12_goesBy_60 : decode cX12_goesBy 60 = .ok (.iaload, 1) := by decide +kernel
theorem dX12_goesBy_61 : decode cX12_goesBy 61 = .ok (.aload_n 0, 1) := by decide +kernel
theorem dX12_goesBy_62 : decode cX12_goesBy 62 = .ok (.getfield 68, 3) := by decide +kernel
theorem dX12_goesBy_65 : decode cX12_goesBy 65 = .ok (.iload_n 2, 1) := by decide +kernel
theorem dX12_goesBy_66 : decode cX12_goesBy 66 = .ok (.iconst 2, 1) := by decide +kernel
theorem dX12_goesBy_67 : decode cX12_goesBy 67 = .ok (.iadd, 1) := by decide +kernel
theorem dX12_goesBy_68 : decode cX12_goesBy 68 = .ok (.iaload, 1) := by decide +kernel
theorem dX12_goesBy_69 : decode cX12_goesBy 69 = .ok (.aload_n 0, 1) := by decide +kernel
theorem dX12_goesBy_70 : decode cX12_goesBy 70 = .ok (.getfield 68, 3) := by decide +kernel
theorem dX12_goesBy_73 : decode cX12_goesBy 73 = .ok (.iload_n 2, 1) := by decide +kernel
theorem dX12_goesBy_74 : decode cX12_goesBy 74 = .ok (.iconst 3, 1) := by decide +kernel
theorem dX12_goesBy_75 : decode cX12_goesBy 75 = .ok (.iadd, 1) := by decide +kernel
theorem dX12_goesBy_76 : decode cX12_goesBy 76 = .ok (.iaload, 1) := by decide +kernel
theorem dX12_goesBy_77 : decode cX12_goesBy 77 = .ok (.aload_n 0, 1) := by decide +kernel
theorem dX12_goesBy_78 : decode cX12_goesBy 78 = .ok (.getfield 68, 3) := by decide +kernel
theorem dX12_goesBy_81 : decode cX12_goesBy 81 = .ok (.iload_n 2, 1) := by decide +kernel
theorem dX12_goesBy_82 : decode cX12_goesBy 82 = .ok (.iconst 4, 1) := by decide +kernel
theorem dX12_goesBy_83 : decode cX12_goesBy 83 = .ok (.iadd, 1) := by decide +kernel
theorem dX12_goesBy_84 : decode cX12_goesBy 84 = .ok (.iaload, 1) := by decide +kernel
theorem dX12_goesBy_85 : decode cX12_goesBy 85 = .ok (.invokevirtual 360, 3) := by decide +kernel
theorem dX12_goesBy_88 : decode cX12_goesBy 88 = .ok (.iinc 1 1, 3) := by decide +kernel
theorem dX12_goesBy_91 : decode cX12_goesBy 91 = .ok (.goto (-89), 3) := by decide +kernel
theorem dX12_goesBy_94 : decode cX12_goesBy 94 = .ok (.iconst 0, 1) := by decide +kernel
theorem dX12_goesBy_95 : decode cX12_goesBy 95 = .ok (.istore_n 1, 1) := by decide +kernel
theorem dX12_goesBy_96 : decode cX12_goesBy 96 = .ok (.iload_n 1, 1) := by decide +kernel
theorem dX12_goesBy_97 : decode cX12_goesBy 97 = .ok (.aload_n 0, 1) := by decide +kernel
theorem dX12_goesBy_98 : decode cX12_goesBy 98 = .ok (.getfield 131, 3) := by decide +kernel
theorem dX12_goesBy_101 : decode cX12_goesBy 101 = .ok (.if_icmp .ge 14, 3) := by decide +kernel
theorem dX12_goesBy_104 : decode cX12_goesBy 104 = .ok (.aload_n 0, 1) := by decide +kernel
theorem dX12_goesBy_105 : decode cX12_goesBy 105 = .ok (.iload_n 1, 1) := by decide +kernel
theorem dX12_goesBy_106 : decode cX12_goesBy 106 = .ok (.invokevirtual 401, 3) := by decide +kernel
theorem dX12_goesBy_109 : decode cX12_goesBy 109 = .ok (.iinc 1 1, 3) := by decide +kernel
theorem dX12_goesBy_112 : decode cX12_goesBy 112 = .ok (.goto (-16), 3) := by decide +kernel
theorem dX12_goesBy_115 : decode cX12_goesBy 115 = .ok (.iconst 0, 1) := by decide +kernel
theorem dX12_goesBy_116 : decode cX12_goesBy 116 = .ok (.istore_n 1, 1) := by decide +kernel
theorem dX12_goesBy_117 : decode cX12_goesBy 117 = .ok (.iload_n 1, 1) := by decide +kernel
theorem dX12_goesBy_118 : decode cX12_goesBy 118 = .ok (.aload_n 0, 1) := by decide +kernel
theorem dX12_goesBy_119 : decode cX12_goesBy 119 = .ok (.getfield 131, 3) := by decide +kernel
theorem dX12_goesBy_122 : decode cX12_goesBy 122 = .ok (.if_icmp .ge 23, 3) := by decide +kernel
theorem dX12_goesBy_125 : decode cX12_goesBy 125 = .ok (.aload_n 0, 1) := by decide +kernel
theorem dX12_goesBy_126 : decode cX12_goesBy 126 = .ok (.iload_n 1, 1) := by decide +kernel
theorem dX12_goesBy_127 : decode cX12_goesBy 127 = .ok (.invokevirtual 324, 3) := by decide +kernel
theorem dX12_goesBy_130 : decode cX12_goesBy 130 = .ok (.iconst (-1), 1) := by decide +kernel
theorem dX12_goesBy_131 : decode cX12_goesBy 131 = .ok (.if_icmp .eq 8, 3) := by decide +kernel
theorem dX12_goesBy_134 : decode cX12_goesBy 134 = .ok (.aload_n 0, 1) := by decide +kernel
theorem dX12_goesBy_135 : decode cX12_goesBy 135 = .ok (.iload_n 1, 1) := by decide +kernel
theorem dX12_goesBy_136 : decode cX12_goesBy 136 = .ok (.invokevirtual 404, 3) := by decide +kernel
theorem dX12_goesBy_139 : decode cX12_goesBy 139 = .ok (.iinc 1 1, 3) := by decide +kernel
theorem dX12_goesBy_142 : decode cX12_goesBy 142 = .ok (.goto (-25), 3) := by decide +kernel
theorem dX12_goesBy_145 : decode cX12_goesBy 145 = .ok (.aload_n 0, 1) := by decide +kernel
theorem dX12_goesBy_146 : decode cX12_goesBy 146 = .ok (.invokevirtual 407, 3) := by decide +kernel
theorem dX12_goesBy_149 : decode cX12_goesBy 149 = .ok (.aload_n 0, 1) := by decide +kernel
theorem dX12_goesBy_150 : decode cX12_goesBy 150 = .ok (.invokevirtual 410, 3) := by decide +kernel
theorem dX12_goesBy_153 : decode cX12_goesBy 153 = .ok (.aload_n 0, 1) := by decide +kernel
theorem dX12_goesBy_154 : decode cX12_goesBy 154 = .ok (.invokevirtual 413, 3) := by decide +kernel
theorem dX12_goesBy_157 : decode cX12_goesBy 157 = .ok (.aload_n 0, 1) := by decide +kernel
theorem dX12_goesBy_158 : decode cX12_goesBy 158 = .ok (.getfield 7, 3) := by decide +kernel
theorem dX12_goesBy_161 : decode cX12_goesBy 161 = .ok (.iconst 0, 1) := by decide +kernel
theorem dX12_goesBy_162 : decode cX12_goesBy 162 = .ok (.aload_n 0, 1) := by decide +kernel
theorem dX12_goesBy_163 : decode cX12_goesBy 163 = .ok (.getfield 7, 3) := by decide +kernel
theorem dX12_goesBy_166 : decode cX12_goesBy 166 = .ok (.iconst 0, 1) := by decide +kernel
theorem dX12_goesBy_167 : decode cX12_goesBy 167 = .ok (.iaload, 1) := by decide +kernel
theorem dX12_goesBy_168 : decode cX12_goesBy 168 = .ok (.iconst 1, 1) := by decide +kernel
theorem dX12_goesBy_169 : decode cX12_goesBy 169 = .ok (.iadd, 1) := by decide +kernel
theorem dX12_goesBy_170 : decode cX12_goesBy 170 = .ok (.iastore, 1) := by decide +kernel
theorem dX12_goesBy_171 : decode cX12_goesBy 171 = .ok (.return_, 1) := by decide +kernel
theorem dX12_weeks_0 : decode cX12_weeks 0 = .ok (.aload_n 0, 1) := by decide +kernel
theorem dX12_weeks_1 : decode cX12_weeks 1 = .ok (.iconst 0, 1) := by decide +kernel
theorem dX12_weeks_2 : decode cX12_weeks 2 = .ok (.putfield 113, 3) := by decide +kernel
theorem dX12_weeks_5 : decode cX12_weeks 5 = .ok (.aload_n 0, 1) := by decide +kernel
theorem dX12_weeks_6 : decode cX12_weeks 6 = .ok (.iload_n 1, 1) := by decide +kernel
theorem dX12_weeks_7 : decode cX12_weeks 7 = .ok (.iconst 1, 1) := by decide +kernel
theorem dX12_weeks_8 : decode cX12_weeks 8 = .ok (.bipush 60, 2) := by decide +kernel
theorem dX12_weeks_10 : decode cX12_weeks 10 = .ok (.invokevirtual 142, 3) := by decide +kernel
theorem dX12_weeks_13 : decode cX12_weeks 13 = .ok (.ifCond .eq 17, 3) := by decide +kernel
theorem dX12_weeks_16 : decode cX12_weeks 16 = .ok (.aload_n 0, 1) := by decide +kernel
theorem dX12_weeks_17 : decode cX12_weeks 17 = .ok (.getfield 7, 3) := by decide +kernel
theorem dX12_weeks_20 : decode cX12_weeks 20 = .ok (.iconst 0, 1) := by decide +kernel
theorem dX12_weeks_21 : decode cX12_weeks 21 = .ok (.iaload, 1) := by decide +kernel
theorem dX12_weeks_22 : decode cX12_weeks 22 = .ok (.iload_n 1, 1) := by decide +kernel
theorem dX12_weeks_23 : decode cX12_weeks 23 = .ok (.iadd, 1) := by decide +kernel
theorem dX12_weeks_24 : decode cX12_weeks 24 = .ok (.sipush 999, 3) := by decide +kernel
theorem dX12_weeks_27 : decode cX12_weeks 27 = .ok (.if_icmp .le 5, 3) := by decide +kernel
theorem dX12_weeks_30 : decode cX12_weeks 30 = .ok (.iconst (-1), 1) := by decide +kernel
theorem dX12_weeks_31 : decode cX12_weeks 31 = .ok (.ireturn, 1) := by decide +kernel
theorem dX12_weeks_32 : decode cX12_weeks 32 = .ok (.aload_n 0, 1) := by decide +kernel
theorem dX12_weeks_33 : decode cX12_weeks 33 = .ok (.getfield 7, 3) := by decide +kernel
theorem dX12_weeks_36 : decode cX12_weeks 36 = .ok (.iconst 3, 1) := by decide +kernel
theorem dX12_weeks_37 : decode cX12_weeks 37 = .ok (.iaload, 1) := by decide +kernel
theorem dX12_weeks_38 : decode cX12_weeks 38 = .ok (.istore_n 2, 1) := by decide +kernel
theorem dX12_weeks_39 : decode cX12_weeks 39 = .ok (.iconst 0, 1) := by decide +kernel
theorem dX12_weeks_40 : decode cX12_weeks 40 = .ok (.istore_n 3, 1) := by decide +kernel
theorem dX12_weeks_41 : decode cX12_weeks 41 = .ok (.iload_n 3, 1) := by decide +kernel
theorem dX12_weeks_42 : decode cX12_weeks 42 = .ok (.iload_n 1, 1) := by decide +kernel
theorem dX12_weeks_43 : decode cX12_weeks 43 = .ok (.if_icmp .ge 17, 3) := by decide +kernel
theorem dX12_weeks_46 : decode cX12_weeks 46 = .ok (.aload_n 0, 1) := by decide +kernel
theorem dX12_weeks_47 : decode cX12_weeks 47 = .ok (.invokevirtual 357, 3) := by decide +kernel
theorem dX12_weeks_50 : decode cX12_weeks 50 = .ok (.aload_n 0, 1) := by decide +kernel
theorem dX12_weeks_51 : decode cX12_weeks 51 = .ok (.invokevirtual 416, 3) := by decide +kernel
theorem dX12_weeks_54 : decode cX12_weeks 54 = .ok (.iinc 3 1, 3) := by decide +kernel
theorem dX12_weeks_57 : decode cX12_weeks 57 = .ok (.goto (-16), 3) := by decide +kernel
theorem dX12_weeks_60 : decode cX12_weeks 60 = .ok (.aload_n 0, 1) := by decide +kernel
theorem dX12_weeks_61 : decode cX12_weeks 61 = .ok (.getfield 7, 3) := by decide +kernel
theorem dX12_weeks_64 : decode cX12_weeks 64 = .ok (.iconst 3, 1) := by decide +kernel
theorem dX12_weeks_65 : decode cX12_weeks 65 = .ok (.iaload, 1) := by decide +kernel
theorem dX12_weeks_66 : decode cX12_weeks 66 = .ok (.iload_n 2, 1) := by decide +kernel
theorem dX12_weeks_67 : decode cX12_weeks 67 = .ok (.isub, 1) := by decide +kernel
theorem dX12_weeks_68 : decode cX12_weeks 68 = .ok (.ireturn, 1) := by decide +kernel
theorem dX12_ofPot_0 : decode cX12_ofPot 0 = .ok (.aload_n 0, 1) := by decide +kernel
theorem dX12_ofPot_1 : decode cX12_ofPot 1 = .ok (.iload_n 1, 1) := by decide +kernel
theorem dX12_ofPot_2 : decode cX12_ofPot 2 = .ok (.invokevirtual 324, 3) := by decide +kernel
theorem dX12_ofPot_5 : decode cX12_ofPot 5 = .ok (.iconst (-1), 1) := by decide +kernel
theorem dX12_ofPot_6 : decode cX12_ofPot 6 = .ok (.if_icmp .ne 6, 3) := by decide +kernel
theorem dX12_ofPot_9 : decode cX12_ofPot 9 = .ok (.bipush (-100), 2) := by decide +kernel
theorem dX12_ofPot_11 : decode cX12_ofPot 11 = .ok (.ireturn, 1) := by decide +kernel
theorem dX12_ofPot_12 : decode cX12_ofPot 12 = .ok (.aload_n 0, 1) := by decide +kernel
theorem dX12_ofPot_13 : decode cX12_ofPot 13 = .ok (.iload_n 1, 1) := by decide +kernel
theorem dX12_ofPot_14 : decode cX12_ofPot 14 = .ok (.invokevirtual 371, 3) := by decide +kernel
theorem dX12_ofPot_17 : decode cX12_ofPot 17 = .ok (.iload_n 2, 1) := by decide +kernel
theorem dX12_ofPot_18 : decode cX12_ofPot 18 = .ok (.bipush 6, 2) := by decide +kernel
theorem dX12_ofPot_20 : decode cX12_ofPot 20 = .ok (.if_icmp .ne 10, 3) := by decide +kernel
theorem dX12_ofPot_23 : decode cX12_ofPot 23 = .ok (.aload_n 0, 1) := by decide +kernel
theorem dX12_ofPot_24 : decode cX12_ofPot 24 = .ok (.invokevirtual 377, 3) := by decide +kernel
theorem dX12_ofPot_27 : decode cX12_ofPot 27 = .ok (.goto 20, 3) := by decide +kernel
theorem dX12_ofPot_30 : decode cX12_ofPot 30 = .ok (.iload_n 2, 1) := by decide +kernel
theorem dX12_ofPot_31 : decode cX12_ofPot 31 = .ok (.bipush 7, 2) := by decide +kernel
theorem dX12_ofPot_33 : decode cX12_ofPot 33 = .ok (.if_icmp .ne 10, 3) := by decide +kernel
theorem dX12_ofPot_36 : decode cX12_ofPot 36 = .ok (.aload_n 0, 1) := by decide +kernel
theorem dX12_ofPot_37 : decode cX12_ofPot 37 = .ok (.invokevirtual 374, 3) := by decide +kernel
theorem dX12_ofPot_40 : decode cX12_ofPot 40 = .ok (.goto 7, 3) := by decide +kernel
theorem dX12_ofPot_43 : decode cX12_ofPot 43 = .ok (.aload_n 0, 1) := by decide +kernel
theorem dX12_ofPot_44 : decode cX12_ofPot 44 = .ok (.invokevirtual 389, 3) := by decide +kernel
theorem dX12_ofPot_47 : decode cX12_ofPot 47 = .ok (.ireturn, 1) := by decide +kernel
theorem dX12_of_0 : decode cX12_of 0 = .ok (.aload_n 0, 1) := by decide +kernel
theorem dX12_of_1 : decode cX12_of 1 = .ok (.iconst 0, 1) := by decide +kernel
theorem dX12_of_2 : decode cX12_of 2 = .ok (.putfield 113, 3) := by decide +kernel
theorem dX12_of_5 : decode cX12_of 5 = .ok (.aload_n 0, 1) := by decide +kernel
theorem dX12_of_6 : decode cX12_of 6 = .ok (.iload_n 1, 1) := by decide +kernel
theorem dX12_of_7 : decode cX12_of 7 = .ok (.invokevirtual 156, 3) := by decide +kernel
theorem dX12_of_10 : decode cX12_of 10 = .ok (.ifCond .ne 7, 3) := by decide +kernel
theorem dX12_of_13 : decode cX12_of 13 = .ok (.sipush (-1000), 3) := by decide +kernel
theorem dX12_of_16 : decode cX12_of 16 = .ok (.ireturn, 1) := by decide +kernel
theorem dX12_of_17 : decode cX12_of 17 = .ok (.aload_n 0, 1) := by decide +kernel
theorem dX12_of_18 : decode cX12_of 18 = .ok (.iload_n 1, 1) := by decide +kernel
theorem dX12_of_19 : decode cX12_of 19 = .ok (.invokevirtual 324, 3) := by decide +kernel
theorem dX12_of_22 : decode cX12_of 22 = .ok (.iconst (-1), 1) := by decide +kernel
theorem dX12_of_23 : decode cX12_of 23 = .ok (.if_icmp .eq 7, 3) := by decide +kernel
theorem dX12_of_26 : decode cX12_of 26 = .ok (.iconst 1, 1) := by decide +kernel
theorem dX12_of_27 : decode cX12_of 27 = .ok (.goto 4, 3) := by decide +kernel
theorem dX12_of_30 : decode cX12_of 30 = .ok (.iconst 0, 1) := by decide +kernel
theorem dX12_of_31 : decode cX12_of 31 = .ok (.istore_n 3, 1) := by decide +kernel
theorem dX12_of_32 : decode cX12_of 32 = .ok (.iload_n 2, 1) := by decide +kernel
theorem dX12_of_33 : decode cX12_of 33 = .ok (.ifCond .ne 9, 3) := by decide +kernel
theorem dX12_of_36 : decode cX12_of 36 = .ok (.aload_n 0, 1) := by decide +kernel
theorem dX12_of_37 : decode cX12_of 37 = .ok (.iload_n 1, 1) := by decide +kernel
theorem dX12_of_38 : decode cX12_of 38 = .ok (.invokevirtual 324, 3) := by decide +kernel
theorem dX12_of_41 : decode cX12_of 41 = .ok (.ireturn, 1) := by decide +kernel
theorem dX12_of_42 : decode cX12_of 42 = .ok (.iload_n 2, 1) := by decide +kernel
theorem dX12_of_43 : decode cX12_of 43 = .ok (.iconst 1, 1) := by decide +kernel
theorem dX12_of_44 : decode cX12_of 44 = .ok (.if_icmp .ne 21, 3) := by decide +kernel
theorem dX12_of_47 : decode cX12_of 47 = .ok (.iload_n 3, 1) := by decide +kernel
theorem dX12_of_48 : decode cX12_of 48 = .ok (.ifCond .eq 15, 3) := by decide +kernel
theorem dX12_of_51 : decode cX12_of 51 = .ok (.aload_n 0, 1) := by decide +kernel
theorem dX12_of_52 : decode cX12_of 52 = .ok (.getfield 7, 3) := by decide +kernel
theorem dX12_of_55 : decode cX12_of 55 = .ok (.bipush 76, 2) := by decide +kernel
theorem dX12_of_57 : decode cX12_of 57 = .ok (.iload_n 1, 1) := by decide +kernel
theorem dX12_of_58 : decode cX12_of 58 = .ok (.iadd, 1) := by decide +kernel
theorem dX12_of_59 : decode cX12_of 59 = .ok (.iaload, 1) := by decide +kernel
theorem dX12_of_60 : decode cX12_of 60 = .ok (.goto 4, 3) := by decide +kernel
theorem dX12_of_63 : decode cX12_of 63 = .ok (.iconst 0, 1) := by decide +kernel
theorem dX12_of_64 : decode cX12_of 64 = .ok (.ireturn, 1) := by decide +kernel
theorem dX12_of_65 : decode cX12_of 65 = .ok (.iload_n 2, 1) := by decide +kernel
theorem dX12_of_66 : decode cX12_of 66 = .ok (.iconst 2, 1) := by decide +kernel
theorem dX12_of_67 : decode cX12_of 67 = .ok (.if_icmp .ne 21, 3) := by decide +kernel
theorem dX12_of_70 : decode cX12_of 70 = .ok (.iload_n 3, 1) := by decide +kernel
theorem dX12_of_71 : decode cX12_of 71 = .ok (.ifCond .eq 15, 3) := by decide +kernel
theorem dX12_of_74 : decode cX12_of 74 = .ok (.aload_n 0, 1) := by decide +kernel
theorem dX12_of_75 : decode cX12_of 75 = .ok (.getfield 7, 3) := by decide +kernel
theorem dX12_of_78 : decode cX12_of 78 = .ok (.bipush 84, 2) := by decide +kernel
theorem dX12_of_80 : decode cX12_of 80 = .ok (.iload_n 1, 1) := by decide +kernel
theorem dX12_of_81 : decode cX12_of 81 = .ok (.iadd, 1) := by decide +kernel
theorem dX12_of_82 : decode cX12_of 82 = .ok (.iaload, 1) := by decide +kernel
theorem dX12_of_83 : decode cX12_of 83 = .ok (.goto 4, 3) := by decide +kernel
theorem dX12_of_86 : decode cX12_of 86 = .ok (.iconst (-1), 1) := by decide +kernel
theorem dX12_of_87 : decode cX12_of 87 = .ok (.ireturn, 1) := by decide +kernel
theorem dX12_of_88 : decode cX12_of 88 = .ok (.iload_n 2, 1) := by decide +kernel
theorem dX12_of_89 : decode cX12_of 89 = .ok (.iconst 3, 1) := by decide +kernel
theorem dX12_of_90 : decode cX12_of 90 = .ok (.if_icmp .ne 21, 3) := by decide +kernel
theorem dX12_of_93 : decode cX12_of 93 = .ok (.iload_n 3, 1) := by decide +kernel
theorem dX12_of_94 : decode cX12_of 94 = .ok (.ifCond .eq 15, 3) := by decide +kernel
theorem dX12_of_97 : decode cX12_of 97 = .ok (.aload_n 0, 1) := by decide +kernel
theorem dX12_of_98 : decode cX12_of 98 = .ok (.getfield 7, 3) := by decide +kernel
theorem dX12_of_101 : decode cX12_of 101 = .ok (.bipush 92, 2) := by decide +kernel
theorem dX12_of_103 : decode cX12_of 103 = .ok (.iload_n 1, 1) := by decide +kernel
theorem dX12_of_104 : decode cX12_of 104 = .ok (.iadd, 1) := by decide +kernel
theorem dX12_of_105 : decode cX12_of 105 = .ok (.iaload, 1) := by decide +kernel
theorem dX12_of_106 : decode cX12_of 106 = .ok (.goto 4, 3) := by decide +kernel
theorem dX12_of_109 : decode cX12_of 109 = .ok (.iconst 0, 1) := by decide +kernel
theorem dX12_of_110 : decode cX12_of 110 = .ok (.ireturn, 1) := by decide +kernel
theorem dX12_of_111 : decode cX12_of 111 = .ok (.iload_n 2, 1) := by decide +kernel
theorem dX12_of_112 : decode cX12_of 112 = .ok (.iconst 4, 1) := by decide +kernel
theorem dX12_of_113 : decode cX12_of 113 = .ok (.if_icmp .ne 9, 3) := by decide +kernel
theorem dX12_of_116 : decode cX12_of 116 = .ok (.aload_n 0, 1) := by decide +kernel
theorem dX12_of_117 : decode cX12_of 117 = .ok (.iload_n 1, 1) := by decide +kernel
theorem dX12_of_118 : decode cX12_of 118 = .ok (.invokevirtual 327, 3) := by decide +kernel
theorem dX12_of_121 : decode cX12_of 121 = .ok (.ireturn, 1) := by decide +kernel
theorem dX12_of_122 : decode cX12_of 122 = .ok (.iload_n 2, 1) := by decide +kernel
theorem dX12_of_123 : decode cX12_of 123 = .ok (.iconst 5, 1) := by decide +kernel
theorem dX12_of_124 : decode cX12_of 124 = .ok (.if_icmp .ne 10, 3) := by decide +kernel
theorem dX12_of_127 : decode cX12_of 127 = .ok (.aload_n 0, 1) := by decide +kernel
theorem dX12_of_128 : decode cX12_of 128 = .ok (.getfield 22, 3) := by decide +kernel
theorem dX12_of_131 : decode cX12_of 131 = .ok (.iload_n 1, 1) := by decide +kernel
theorem dX12_of_132 : decode cX12_of 132 = .ok (.iaload, 1) := by decide +kernel
theorem dX12_of_133 : decode cX12_of 133 = .ok (.ireturn, 1) := by decide +kernel
theorem dX12_of_134 : decode cX12_of 134 = .ok (.aload_n 0, 1) := by decide +kernel
theorem dX12_of_135 : decode cX12_of 135 = .ok (.iload_n 2, 1) := by decide +kernel
theorem dX12_of_136 : decode cX12_of 136 = .ok (.bipush 6, 2) := by decide +kernel
theorem dX12_of_138 : decode cX12_of 138 = .ok (.bipush 8, 2) := by decide +kernel
theorem dX12_of_140 : decode cX12_of 140 = .ok (.invokevirtual 142, 3) := by decide +kernel
theorem dX12_of_143 : decode cX12_of 143 = .ok (.ifCond .eq 10, 3) := by decide +kernel
theorem dX12_of_146 : decode cX12_of 146 = .ok (.aload_n 0, 1) := by decide +kernel
theorem dX12_of_147 : decode cX12_of 147 = .ok (.iload_n 1, 1) := by decide +kernel
theorem dX12_of_148 : decode cX12_of 148 = .ok (.iload_n 2, 1) := by decide +kernel
theorem dX12_of_149 : decode cX12_of 149 = .ok (.invokevirtual 419, 3) := by decide +kernel
theorem dX12_of_152 : decode cX12_of 152 = .ok (.ireturn, 1) := by decide +kernel
theorem dX12_of_153 : decode cX12_of 153 = .ok (.aload_n 0, 1) := by decide +kernel
theorem dX12_of_154 : decode cX12_of 154 = .ok (.iload_n 2, 1) := by decide +kernel
theorem dX12_of_155 : decode cX12_of 155 = .ok (.bipush 10, 2) := by decide +kernel
theorem dX12_of_157 : decode cX12_of 157 = .ok (.bipush 17, 2) := by decide +kernel
theorem dX12_of_159 : decode cX12_of 159 = .ok (.invokevirtual 142, 3) := by decide +kernel
theorem dX12_of_162 : decode cX12_of 162 = .ok (.ifCond .eq 15, 3) := by decide +kernel
theorem dX12_of_165 : decode cX12_of 165 = .ok (.aload_n 0, 1) := by decide +kernel
theorem dX12_of_166 : decode cX12_of 166 = .ok (.iload_n 1, 1) := by decide +kernel
theorem dX12_of_167 : decode cX12_of 167 = .ok (.iload_n 2, 1) := by decide +kernel
theorem dX12_of_168 : decode cX12_of 168 = .ok (.bipush 10, 2) := by decide +kernel
theorem dX12_of_170 : decode cX12_of 170 = .ok (.isub, 1) := by decide +kernel
theorem dX12_of_171 : decode cX12_of 171 = .ok (.invokevirtual 134, 3) := by decide +kernel
theorem dX12_of_174 : decode cX12_of 174 = .ok (.goto 6, 3) := by decide +kernel
theorem dX12_of_177 : decode cX12_of 177 = .ok (.sipush (-1000), 3) := by decide +kernel
theorem dX12_of_180 : decode cX12_of 180 = .ok (.ireturn, 1) := by decide +kernel
theorem dX12_reason_0 : decode cX12_reason 0 = .ok (.aload_n 0, 1) := by decide +kernel
theorem dX12_reason_1 : decode cX12_reason 1 = .ok (.iconst 0, 1) := by decide +kernel
theorem dX12_reason_2 : decode cX12_reason 2 = .ok (.putfield 113, 3) := by decide +kernel
theorem dX12_reason_5 : decode cX12_reason 5 = .ok (.aload_n 0, 1) := by decide +kernel
theorem dX12_reason_6 : decode cX12_reason 6 = .ok (.iload_n 1, 1) := by decide +kernel
theorem dX12_reason_7 : decode cX12_reason 7 = .ok (.iconst 0, 1) := by decide +kernel
theorem dX12_reason_8 : decode cX12_reason 8 = .ok (.aload_n 0, 1) := by decide +kernel
theorem dX12_reason_9 : decode cX12_reason 9 = .ok (.getfield 297, 3) := by decide +kernel
theorem dX12_reason_12 : decode cX12_reason 12 = .ok (.iconst 1, 1) := by decide +kernel
theorem dX12_reason_13 : decode cX12_reason 13 = .ok (.isub, 1) := by decide +kernel
theorem dX12_reason_14 : decode cX12_reason 14 = .ok (.invokevirtual 142, 3) := by decide +kernel
theorem dX12_reason_17 : decode cX12_reason 17 = .ok (.ifCond .eq 22, 3) := by decide +kernel
theorem dX12_reason_20 : decode cX12_reason 20 = .ok (.aload_n 0, 1) := by decide +kernel
theorem dX12_reason_21 : decode cX12_reason 21 = .ok (.iload_n 2, 1) := by decide +kernel
theorem dX12_reason_22 : decode cX12_reason 22 = .ok (.iconst 0, 1) := by decide +kernel
theorem dX12_reason_23 : decode cX12_reason 23 = .ok (.iconst 2, 1) := by decide +kernel
theorem dX12_reason_24 : decode cX12_reason 24 = .ok (.invokevirtual 142, 3) := by decide +kernel
theorem dX12_reason_27 : decode cX12_reason 27 = .ok (.ifCond .eq 12, 3) := by decide +kernel
theorem dX12_reason_30 : decode cX12_reason 30 = .ok (.aload_n 0, 1) := by decide +kernel
theorem dX12_reason_31 : decode cX12_reason 31 = .ok (.iload_n 1, 1) := by decide +kernel
theorem dX12_reason_32 : decode cX12_reason 32 = .ok (.iload_n 2, 1) := by decide +kernel
theorem dX12_reason_33 : decode cX12_reason 33 = .ok (.invokevirtual 368, 3) := by decide +kernel
theorem dX12_reason_36 : decode cX12_reason 36 = .ok (.goto 4, 3) := by decide +kernel
theorem dX12_reason_39 : decode cX12_reason 39 = .ok (.iconst (-1), 1) := by decide +kernel
theorem dX12_reason_40 : decode cX12_reason 40 = .ok (.ireturn, 1) := by decide +kernel
theorem dX12_book_0 : decode cX12_book 0 = .ok (.aload_n 0, 1) := by decide +kernel
theorem dX12_book_1 : decode cX12_book 1 = .ok (.iconst 0, 1) := by decide +kernel
theorem dX12_book_2 : decode cX12_book 2 = .ok (.putfield 113, 3) := by decide +kernel
theorem dX12_book_5 : decode cX12_book 5 = .ok (.aload_n 0, 1) := by decide +kernel
theorem dX12_book_6 : decode cX12_book 6 = .ok (.iload_n 1, 1) := by decide +kernel
theorem dX12_book_7 : decode cX12_book 7 = .ok (.iconst 0, 1) := by decide +kernel
theorem dX12_book_8 : decode cX12_book 8 = .ok (.aload_n 0, 1) := by decide +kernel
theorem dX12_book_9 : decode cX12_book 9 = .ok (.getfield 7, 3) := by decide +kernel
theorem dX12_book_12 : decode cX12_book 12 = .ok (.iconst 2, 1) := by decide +kernel
theorem dX12_book_13 : decode cX12_book 13 = .ok (.iaload, 1) := by decide +kernel
theorem dX12_book_14 : decode cX12_book 14 = .ok (.iconst 1, 1) := by decide +kernel
theorem dX12_book_15 : decode cX12_book 15 = .ok (.isub, 1) := by decide +kernel
theorem dX12_book_16 : decode cX12_book 16 = .ok (.invokevirtual 142, 3) := by decide +kernel
theorem dX12_book_19 : decode cX12_book 19 = .ok (.ifCond .eq 26, 3) := by decide +kernel
theorem dX12_book_22 : decode cX12_book 22 = .ok (.aload_n 0, 1) := by decide +kernel
theorem dX12_book_23 : decode cX12_book 23 = .ok (.iload_n 2, 1) := by decide +kernel
theorem dX12_book_24 : decode cX12_book 24 = .ok (.iconst 0, 1) := by decide +kernel
theorem dX12_book_25 : decode cX12_book 25 = .ok (.iconst 3, 1) := by decide +kernel
theorem dX12_book_26 : decode cX12_book 26 = .ok (.invokevirtual 142, 3) := by decide +kernel
theorem dX12_book_29 : decode cX12_book 29 = .ok (.ifCond .eq 16, 3) := by decide +kernel
theorem dX12_book_32 : decode cX12_book 32 = .ok (.aload_n 0, 1) := by decide +kernel
theorem dX12_book_33 : decode cX12_book 33 = .ok (.getfield 25, 3) := by decide +kernel
theorem dX12_book_36 : decode cX12_book 36 = .ok (.iconst 4, 1) := by decide +kernel
theorem dX12_book_37 : decode cX12_book 37 = .ok (.iload_n 1, 1) := by decide +kernel
theorem dX12_book_38 : decode cX12_book 38 = .ok (.imul, 1) := by decide +kernel
theorem dX12_book_39 : decode cX12_book 39 = .ok (.iload_n 2, 1) := by decide +kernel
theorem dX12_book_40 : decode cX12_book 40 = .ok (.iadd, 1) := by decide +kernel
theorem dX12_book_41 : decode cX12_book 41 = .ok (.iaload, 1) := by decide +kernel
theorem dX12_book_42 : decode cX12_book 42 = .ok (.goto 4, 3) := by decide +kernel
theorem dX12_book_45 : decode cX12_book 45 = .ok (.iconst (-1), 1) := by decide +kernel
theorem dX12_book_46 : decode cX12_book 46 = .ok (.ireturn, 1) := by decide +kernel
theorem dX12_first_0 : decode cX12_first 0 = .ok (.aload_n 0, 1) := by decide +kernel
theorem dX12_first_1 : decode cX12_first 1 = .ok (.iconst 0, 1) := by decide +kernel
theorem dX12_first_2 : decode cX12_first 2 = .ok (.putfield 113, 3) := by decide +kernel
theorem dX12_first_5 : decode cX12_first 5 = .ok (.aload_n 0, 1) := by decide +kernel
theorem dX12_first_6 : decode cX12_first 6 = .ok (.iload_n 1, 1) := by decide +kernel
theorem dX12_first_7 : decode cX12_first 7 = .ok (.iconst 1, 1) := by decide +kernel
theorem dX12_first_8 : decode cX12_first 8 = .ok (.bipush 60, 2) := by decide +kernel
theorem dX12_first_10 : decode cX12_first 10 = .ok (.invokevirtual 142, 3) := by decide +kernel
theorem dX12_first_13 : decode cX12_first 13 = .ok (.ifCond .eq 13, 3) := by decide +kernel
theorem dX12_first_16 : decode cX12_first 16 = .ok (.aload_n 0, 1) := by decide +kernel
theorem dX12_first_17 : decode cX12_first 17 = .ok (.iload_n 2, 1) := by decide +kernel
theorem dX12_first_18 : decode cX12_first 18 = .ok (.iconst 0, 1) := by decide +kernel
theorem dX12_first_19 : decode cX12_first 19 = .ok (.iconst 2, 1) := by decide +kernel
theorem dX12_first_20 : decode cX12_first 20 = .ok (.invokevirtual 142, 3) := by decide +kernel
theorem dX12_first_23 : decode cX12_first 23 = .ok (.ifCond .ne 5, 3) := by decide +kernel
theorem dX12_first_26 : decode cX12_first 26 = .ok (.iconst (-1), 1) := by decide +kernel
theorem dX12_first_27 : decode cX12_first 27 = .ok (.ireturn, 1) := by decide +kernel
theorem dX12_first_28 : decode cX12_first 28 = .ok (.iconst (-1), 1) := by decide +kernel
theorem dX12_first_29 : decode cX12_first 29 = .ok (.istore_n 3, 1) := by decide +kernel
theorem dX12_first_30 : decode cX12_first 30 = .ok (.iconst (-1), 1) := by decide +kernel
theorem dX12_first_31 : decode cX12_first 31 = .ok (.istore 4, 2) := by decide +kernel
theorem dX12_first_33 : decode cX12_first 33 = .ok (.aload_n 0, 1) := by decide +kernel
theorem dX12_first_34 : decode cX12_first 34 = .ok (.invokevirtual 422, 3) := by decide +kernel
theorem dX12_first_37 : decode cX12_first 37 = .ok (.iconst 0, 1) := by decide +kernel
theorem dX12_first_38 : decode cX12_first 38 = .ok (.istore 5, 2) := by decide +kernel
theorem dX12_first_40 : decode cX12_first 40 = .ok (.iload 5, 2) := by decide +kernel
theorem dX12_first_42 : decode cX12_first 42 = .ok (.iload_n 1, 1) := by decide +kernel
theorem dX12_first_43 : decode cX12_first 43 = .ok (.if_icmp .ge 44, 3) := by decide +kernel
theorem dX12_first_46 : decode cX12_first 46 = .ok (.aload_n 0, 1) := by decide +kernel
theorem dX12_first_47 : decode cX12_first 47 = .ok (.invokevirtual 416, 3) := by decide +kernel
theorem dX12_first_50 : decode cX12_first 50 = .ok (.iload_n 3, 1) := by decide +kernel
theorem dX12_first_51 : decode cX12_first 51 = .ok (.iconst (-1), 1) := by decide +kernel
theorem dX12_first_52 : decode cX12_first 52 = .ok (.if_icmp .ne 29, 3) := by decide +kernel
theorem dX12_first_55 : decode cX12_first 55 = .ok (.aload_n 0, 1) := by decide +kernel
theorem dX12_first_56 : decode cX12_first 56 = .ok (.getfield 395, 3) := by decide +kernel
theorem dX12_first_59 : decode cX12_first 59 = .ok (.iconst (-1), 1) := by decide +kernel
theorem dX12_first_60 : decode cX12_first 60 = .ok (.if_icmp .ne 6, 3) := by decide +kernel
theorem dX12_first_63 : decode cX12_first 63 = .ok (.goto 18, 3) := by decide +kernel
theorem dX12_first_66 : decode cX12_first 66 = .ok (.aload_n 0, 1) := by decide +kernel
theorem dX12_first_67 : decode cX12_first 67 = .ok (.getfield 395, 3) := by decide +kernel
theorem dX12_first_70 : decode cX12_first 70 = .ok (.istore_n 3, 1) := by decide +kernel
theorem dX12_first_71 : decode cX12_first 71 = .ok (.aload_n 0, 1) := by decide +kernel
theorem dX12_first_72 : decode cX12_first 72 = .ok (.getfield 7, 3) := by decide +kernel
theorem dX12_first_75 : decode cX12_first 75 = .ok (.iconst 0, 1) := by decide +kernel
theorem dX12_first_76 : decode cX12_first 76 = .ok (.iaload, 1) := by decide +kernel
theorem dX12_first_77 : decode cX12_first 77 = .ok (.iconst 1, 1) := by decide +kernel
theorem dX12_first_78 : decode cX12_first 78 = .ok (.isub, 1) := by decide +kernel
theorem dX12_first_79 : decode cX12_first 79 = .ok (.istore 4, 2) := by decide +kernel
theorem dX12_first_81 : decode cX12_first 81 = .ok (.iinc 5 1, 3) := by decide +kernel
theorem dX12_first_84 : decode cX12_first 84 = .ok (.goto (-44), 3) := by decide +kernel
theorem dX12_first_87 : decode cX12_first 87 = .ok (.aload_n 0, 1) := by decide +kernel
theorem dX12_first_88 : decode cX12_first 88 = .ok (.getfield 7, 3) := by decide +kernel
theorem dX12_first_91 : decode cX12_first 91 = .ok (.iconst 3, 1) := by decide +kernel
theorem dX12_first_92 : decode cX12_first 92 = .ok (.iaload, 1) := by decide +kernel
theorem dX12_first_93 : decode cX12_first 93 = .ok (.aload_n 0, 1) := by decide +kernel
theorem dX12_first_94 : decode cX12_first 94 = .ok (.getfield 16, 3) := by decide +kernel
theorem dX12_first_97 : decode cX12_first 97 = .ok (.iconst 3, 1) := by decide +kernel
theorem dX12_first_98 : decode cX12_first 98 = .ok (.iaload, 1) := by decide +kernel
theorem dX12_first_99 : decode cX12_first 99 = .ok (.isub, 1) := by decide +kernel
theorem dX12_first_100 : decode cX12_first 100 = .ok (.istore 5, 2) := by decide +kernel
theorem dX12_first_102 : decode cX12_first 102 = .ok (.aload_n 0, 1) := by decide +kernel
theorem dX12_first_103 : decode cX12_first 103 = .ok (.invokevirtual 425, 3) := by decide +kernel
theorem dX12_first_106 : decode cX12_first 106 = .ok (.iload_n 2, 1) := by decide +kernel
theorem dX12_first_107 : decode cX12_first 107 = .ok (.ifCond .ne 7, 3) := by decide +kernel
theorem dX12_first_110 : decode cX12_first 110 = .ok (.iload_n 3, 1) := by decide +kernel
theorem dX12_first_111 : decode cX12_first 111 = .ok (.goto 15, 3) := by decide +kernel
theorem dX12_first_114 : decode cX12_first 114 = .ok (.iload_n 2, 1) := by decide +kernel
theorem dX12_first_115 : decode cX12_first 115 = .ok (.iconst 1, 1) := by decide +kernel
theorem dX12_first_116 : decode cX12_first 116 = .ok (.if_icmp .ne 8, 3) := by decide +kernel
theorem dX12_first_119 : decode cX12_first 119 = .ok (.iload 4, 2) := by decide +kernel
theorem dX12_first_121 : decode cX12_first 121 = .ok (.goto 5, 3) := by decide +kernel
theorem dX12_first_124 : decode cX12_first 124 = .ok (.iload 5, 2) := by decide +kernel
theorem dX12_first_126 : decode cX12_first 126 = .ok (.ireturn, 1) := by decide +kernel
theorem dX12_findsNeeds_0 : decode cX12_findsNeeds 0 = .ok (.iconst 0, 1) := by decide +kernel
theorem dX12_findsNeeds_1 : decode cX12_findsNeeds 1 = .ok (.istore_n 1, 1) := by decide +kernel
theorem dX12_findsNeeds_2 : decode cX12_findsNeeds 2 = .ok (.iload_n 1, 1) := by decide +kernel
theorem dX12_findsNeeds_3 : decode cX12_findsNeeds 3 = .ok (.aload_n 0, 1) := by decide +kernel
theorem dX12_findsNeeds_4 : decode cX12_findsNeeds 4 = .ok (.getfield 131, 3) := by decide +kernel
theorem dX12_findsNeeds_7 : decode cX12_findsNeeds 7 = .ok (.if_icmp .ge 115, 3) := by decide +kernel
theorem dX12_findsNeeds_10 : decode cX12_findsNeeds 10 = .ok (.aload_n 0, 1) := by decide +kernel
theorem dX12_findsNeeds_11 : decode cX12_findsNeeds 11 = .ok (.getfield 77, 3) := by decide +kernel
theorem dX12_findsNeeds_14 : decode cX12_findsNeeds 14 = .ok (.iload_n 1, 1) := by decide +kernel
theorem dX12_findsNeeds_15 : decode cX12_findsNeeds 15 = .ok (.aload_n 0, 1) := by decide +kernel
theorem dX12_findsNeeds_16 : decode cX12_findsNeeds 16 = .ok (.iload_n 1, 1) := by decide +kernel
theorem dX12_findsNeeds_17 : decode cX12_findsNeeds 17 = .ok (.invokevirtual 327, 3) := by decide +kernel
theorem dX12_findsNeeds_20 : decode cX12_findsNeeds 20 = .ok (.iastore, 1) := by decide +kernel
theorem dX12_findsNeeds_21 : decode cX12_findsNeeds 21 = .ok (.aload_n 0, 1) := by decide +kernel
theorem dX12_findsNeeds_22 : decode cX12_findsNeeds 22 = .ok (.getfield 80, 3) := by decide +kernel
theorem dX12_findsNeeds_25 : decode cX12_findsNeeds 25 = .ok (.iload_n 1, 1) := by decide +kernel
theorem dX12_findsNeeds_26 : decode cX12_findsNeeds 26 = .ok (.aload_n 0, 1) := by decide +kernel
theorem dX12_findsNeeds_27 : decode cX12_findsNeeds 27 = .ok (.iconst 0, 1) := by decide +kernel
theorem dX12_findsNeeds_28 : decode cX12_findsNeeds 28 = .ok (.aload_n 0, 1) := by decide +kernel
theorem dX12_findsNeeds_29 : decode cX12_findsNeeds 29 = .ok (.aload_n 0, 1) := by decide +kernel
theorem dX12_findsNeeds_30 : decode cX12_findsNeeds 30 = .ok (.getfield 77, 3) := by decide +kernel
theorem dX12_findsNeeds_33 : decode cX12_findsNeeds 33 = .ok (.iload_n 1, 1) := by decide +kernel
theorem dX12_findsNeeds_34 : decode cX12_findsNeeds 34 = .ok (.iaload, 1) := by decide +kernel
theorem dX12_findsNeeds_35 : decode cX12_findsNeeds 35 = .ok (.invokevirtual 330, 3) := by decide +kernel
theorem dX12_findsNeeds_38 : decode cX12_findsNeeds 38 = .ok (.aload_n 0, 1) := by decide +kernel
theorem dX12_findsNeeds_39 : decode cX12_findsNeeds 39 = .ok (.invokevirtual 398, 3) := by decide +kernel
theorem dX12_findsNeeds_42 : decode cX12_findsNeeds 42 = .ok (.isub, 1) := by decide +kernel
theorem dX12_findsNeeds_43 : decode cX12_findsNeeds 43 = .ok (.invokevirtual 380, 3) := by decide +kernel
theorem dX12_findsNeeds_46 : decode cX12_findsNeeds 46 = .ok (.iastore, 1) := by decide +kernel
theorem dX12_findsNeeds_47 : decode cX12_findsNeeds 47 = .ok (.iconst 0, 1) := by decide +kernel
theorem dX12_findsNeeds_48 : decode cX12_findsNeeds 48 = .ok (.istore_n 2, 1) := by decide +kernel
theorem dX12_findsNeeds_49 : decode cX12_findsNeeds 49 = .ok (.iload_n 2, 1) := by decide +kernel
theorem dX12_findsNeeds_50 : decode cX12_findsNeeds 50 = .ok (.aload_n 0, 1) := by decide +kernel
theorem dX12_findsNeeds_51 : decode cX12_findsNeeds 51 = .ok (.getfield 303, 3) := by decide +kernel
theorem dX12_findsNeeds_54 : decode cX12_findsNeeds 54 = .ok (.if_icmp .ge 62, 3) := by decide +kernel
theorem dX12_findsNeeds_57 : decode cX12_findsNeeds 57 = .ok (.aload_n 0, 1) := by decide +kernel
theorem dX12_findsNeeds_58 : decode cX12_findsNeeds 58 = .ok (.getfield 65, 3) := by decide +kernel
theorem dX12_findsNeeds_61 : decode cX12_findsNeeds 61 = .ok (.iconst 3, 1) := by decide +kernel
theorem dX12_findsNeeds_62 : decode cX12_findsNeeds 62 = .ok (.iload_n 2, 1) := by decide +kernel
theorem dX12_findsNeeds_63 : decode cX12_findsNeeds 63 = .ok (.imul, 1) := by decide +kernel
theorem dX12_findsNeeds_64 : decode cX12_findsNeeds 64 = .ok (.iaload, 1) := by decide +kernel
theorem dX12_findsNeeds_65 : decode cX12_findsNeeds 65 = .ok (.iload_n 1, 1) := by decide +kernel
theorem dX12_findsNeeds_66 : decode cX12_findsNeeds 66 = .ok (.if_icmp .ne 44, 3) := by decide +kernel
theorem dX12_findsNeeds_69 : decode cX12_findsNeeds 69 = .ok (.aload_n 0, 1) := by decide +kernel
theorem dX12_findsNeeds_70 : decode cX12_findsNeeds 70 = .ok (.getfield 65, 3) := by decide +kernel
theorem dX12_findsNeeds_73 : decode cX12_findsNeeds 73 = .ok (.iconst 3, 1) := by decide +kernel
theorem dX12_findsNeeds_74 : decode cX12_findsNeeds 74 = .ok (.iload_n 2, 1) := by decide +kernel
theorem dX12_findsNeeds_75 : decode cX12_findsNeeds 75 = .ok (.imul, 1) := by decide +kernel
theorem dX12_findsNeeds_76 : decode cX12_findsNeeds 76 = .ok (.iconst 1, 1) := by decide +kernel
theorem dX12_findsNeeds_77 : decode cX12_findsNeeds 77 = .ok (.iadd, 1) := by decide +kernel
theorem dX12_findsNeeds_78 : decode cX12_findsNeeds 78 = .ok (.iaload, 1) := by decide +kernel
theorem dX12_findsNeeds_79 : decode cX12_findsNeeds 79 = .ok (.iconst 1, 1) := by decide +kernel
theorem dX12_findsNeeds_80 : decode cX12_findsNeeds 80 = .ok (.if_icmp .ne 30, 3) := by decide +kernel
theorem dX12_findsNeeds_83 : decode cX12_findsNeeds 83 = .ok (.aload_n 0, 1) := by decide +kernel
theorem dX12_findsNeeds_84 : decode cX12_findsNeeds 84 = .ok (.getfield 77, 3) := by decide +kernel
theorem dX12_findsNeeds_87 : decode cX12_findsNeeds 87 = .ok (.iload_n 1, 1) := by decide +kernel
theorem dX12_findsNeeds_88 : decode cX12_findsNeeds 88 = .ok (.aload_n 0, 1) := by decide +kernel
theorem dX12_findsNeeds_89 : decode cX12_findsNeeds 89 = .ok (.getfield 77, 3) := by decide +kernel
theorem dX12_findsNeeds_92 : decode cX12_findsNeeds 92 = .ok (.iload_n 1, 1) := by decide +kernel
theorem dX12_findsNeeds_93 : decode cX12_findsNeeds 93 = .ok (.iaload, 1) := by decide +kernel
theorem dX12_findsNeeds_94 : decode cX12_findsNeeds 94 = .ok (.iconst 1, 1) := by decide +kernel
theorem dX12_findsNeeds_95 : decode cX12_findsNeeds 95 = .ok (.aload_n 0, 1) := by decide +kernel
theorem dX12_findsNeeds_96 : decode cX12_findsNeeds 96 = .ok (.getfield 65, 3) := by decide +kernel
theorem dX12_findsNeeds_99 : decode cX12_findsNeeds 99 = .ok (.iconst 3, 1) := by decide +kernel
theorem dX12_findsNeeds_100 : decode cX12_findsNeeds 100 = .ok (.iload_n 2, 1) := by decide +kernel
theorem dX12_findsNeeds_101 : decode cX12_findsNeeds 101 = .ok (.imul, 1) := by decide +kernel
theorem dX12_findsNeeds_102 : decode cX12_findsNeeds 102 = .ok (.iconst 2, 1) := by decide +kernel
theorem dX12_findsNeeds_103 : decode cX12_findsNeeds 103 = .ok (.iadd, 1) := by decide +kernel
theorem dX12_findsNeeds_104 : decode cX12_findsNeeds 104 = .ok (.iaload, 1) := by decide +kernel
theorem dX12_findsNeeds_105 : decode cX12_findsNeeds 105 = .ok (.ishl, 1) := by decide +kernel
theorem dX12_findsNeeds_106 : decode cX12_findsNeeds 106 = .ok (.iconst (-1), 1) := by decide +kernel
theorem dX12_findsNeeds_107 : decode cX12_findsNeeds 107 = .ok (.ixor, 1) := by decide +kernel
theorem dX12_findsNeeds_108 : decode cX12_findsNeeds 108 = .ok (.iand, 1) := by decide +kernel
theorem dX12_findsNeeds_109 : decode cX12_findsNeeds 109 = .ok (.iastore, 1) := by decide +kernel
theorem dX12_findsNeeds_110 : decode cX12_findsNeeds 110 = .ok (.iinc 2 1, 3) := by decide +kernel
theorem dX12_findsNeeds_113 : decode cX12_findsNeeds 113 = .ok (.goto (-64), 3) := by decide +kernel
theorem dX12_findsNeeds_116 : decode cX12_findsNeeds 116 = .ok (.iinc 1 1, 3) := by decide +kernel
theorem dX12_findsNeeds_119 : decode cX12_findsNeeds 119 = .ok (.goto (-117), 3) := by decide +kernel
theorem dX12_findsNeeds_122 : decode cX12_findsNeeds 122 = .ok (.return_, 1) := by decide +kernel
theorem dX12_freeThing_0 : decode cX12_freeThing 0 = .ok (.iconst 0, 1) := by decide +kernel
theorem dX12_freeThing_1 : decode cX12_freeThing 1 = .ok (.istore_n 2, 1) := by decide +kernel
theorem dX12_freeThing_2 : decode cX12_freeThing 2 = .ok (.iload_n 2, 1) := by decide +kernel
theorem dX12_freeThing_3 : decode cX12_freeThing 3 = .ok (.bipush 8, 2) := by decide +kernel
theorem dX12_freeThing_5 : decode cX12_freeThing 5 = .ok (.if_icmp .ge 42, 3) := by decide +kernel
theorem dX12_freeThing_8 : decode cX12_freeThing 8 = .ok (.aload_n 0, 1) := by decide +kernel
theorem dX12_freeThing_9 : decode cX12_freeThing 9 = .ok (.getfield 77, 3) := by decide +kernel
theorem dX12_freeThing_12 : decode cX12_freeThing 12 = .ok (.iload_n 1, 1) := by decide +kernel
theorem dX12_freeThing_13 : decode cX12_freeThing 13 = .ok (.iaload, 1) := by decide +kernel
theorem dX12_freeThing_14 : decode cX12_freeThing 14 = .ok (.aload_n 0, 1) := by decide +kernel
theorem dX12_freeThing_15 : decode cX12_freeThing 15 = .ok (.getfield 83, 3) := by decide +kernel
theorem dX12_freeThing_18 : decode cX12_freeThing 18 = .ok (.iload_n 1, 1) := by decide +kernel
theorem dX12_freeThing_19 : decode cX12_freeThing 19 = .ok (.iaload, 1) := by decide +kernel
theorem dX12_freeThing_20 : decode cX12_freeThing 20 = .ok (.iconst (-1), 1) := by decide +kernel
theorem dX12_freeThing_21 : decode cX12_freeThing 21 = .ok (.ixor, 1) := by decide +kernel
theorem dX12_freeThing_22 : decode cX12_freeThing 22 = .ok (.iand, 1) := by decide +kernel
theorem dX12_freeThing_23 : decode cX12_freeThing 23 = .ok (.iconst 1, 1) := by decide +kernel
theorem dX12_freeThing_24 : decode cX12_freeThing 24 = .ok (.iload_n 2, 1) := by decide +kernel
theorem dX12_freeThing_25 : decode cX12_freeThing 25 = .ok (.ishl, 1) := by decide +kernel
theorem dX12_freeThing_26 : decode cX12_freeThing 26 = .ok (.iand, 1) := by decide +kernel
theorem dX12_freeThing_27 : decode cX12_freeThing 27 = .ok (.ifCond .eq 14, 3) := by decide +kernel
theorem dX12_freeThing_30 : decode cX12_freeThing 30 = .ok (.aload_n 0, 1) := by decide +kernel
theorem dX12_freeThing_31 : decode cX12_freeThing 31 = .ok (.getfield 86, 3) := by decide +kernel
theorem dX12_freeThing_34 : decode cX12_freeThing 34 = .ok (.iload_n 2, 1) := by decide +kernel
theorem dX12_freeThing_35 : decode cX12_freeThing 35 = .ok (.iaload, 1) := by decide +kernel
theorem dX12_freeThing_36 : decode cX12_freeThing 36 = .ok (.ifCond .le 5, 3) := by decide +kernel
theorem dX12_freeThing_39 : decode cX12_freeThing 39 = .ok (.iload_n 2, 1) := by decide +kernel
theorem dX12_freeThing_40 : decode cX12_freeThing 40 = .ok (.ireturn, 1) := by decide +kernel
theorem dX12_freeThing_41 : decode cX12_freeThing 41 = .ok (.iinc 2 1, 3) := by decide +kernel
theorem dX12_freeThing_44 : decode cX12_freeThing 44 = .ok (.goto (-42), 3) := by decide +kernel
theorem dX12_freeThing_47 : decode cX12_freeThing 47 = .ok (.iconst (-1), 1) := by decide +kernel
theorem dX12_freeThing_48 : decode cX12_freeThing 48 = .ok (.ireturn, 1) := by decide +kernel
theorem dX12_reaches_0 : decode cX12_reaches 0 = .ok (.iconst 0, 1) := by decide +kernel
theorem dX12_reaches_1 : decode cX12_reaches 1 = .ok (.istore_n 3, 1) := by decide +kernel
theorem dX12_reaches_2 : decode cX12_reaches 2 = .ok (.iload_n 3, 1) := by decide +kernel
theorem dX12_reaches_3 : decode cX12_reaches 3 = .ok (.aload_n 0, 1) := by decide +kernel
theorem dX12_reaches_4 : decode cX12_reaches 4 = .ok (.getfield 131, 3) := by decide +kernel
theorem dX12_reaches_7 : decode cX12_reaches 7 = .ok (.if_icmp .ge 25, 3) := by decide +kernel
theorem dX12_reaches_10 : decode cX12_reaches 10 = .ok (.aload_n 0, 1) := by decide +kernel
theorem dX12_reaches_11 : decode cX12_reaches 11 = .ok (.getfield 89, 3) := by decide +kernel
theorem dX12_reaches_14 : decode cX12_reaches 14 = .ok (.iload_n 3, 1) := by decide +kernel
theorem dX12_reaches_15 : decode cX12_reaches 15 = .ok (.iload_n 3, 1) := by decide +kernel
theorem dX12_reaches_16 : decode cX12_reaches 16 = .ok (.iload_n 2, 1) := by decide +kernel
theorem dX12_reaches_17 : decode cX12_reaches 17 = .ok (.if_icmp .ne 7, 3) := by decide +kernel
theorem dX12_reaches_20 : decode cX12_reaches 20 = .ok (.iload_n 2, 1) := by decide +kernel
theorem dX12_reaches_21 : decode cX12_reaches 21 = .ok (.goto 4, 3) := by decide +kernel
theorem dX12_reaches_24 : decode cX12_reaches 24 = .ok (.iconst (-1), 1) := by decide +kernel
theorem dX12_reaches_25 : decode cX12_reaches 25 = .ok (.iastore, 1) := by decide +kernel
theorem dX12_reaches_26 : decode cX12_reaches 26 = .ok (.iinc 3 1, 3) := by decide +kernel
theorem dX12_reaches_29 : decode cX12_reaches 29 = .ok (.goto (-27), 3) := by decide +kernel
theorem dX12_reaches_32 : decode cX12_reaches 32 = .ok (.iconst 1, 1) := by decide +kernel
theorem dX12_reaches_33 : decode cX12_reaches 33 = .ok (.istore_n 3, 1) := by decide +kernel
theorem dX12_reaches_34 : decode cX12_reaches 34 = .ok (.iload_n 3, 1) := by decide +kernel
theorem dX12_reaches_35 : decode cX12_reaches 35 = .ok (.ifCond .eq 141, 3) := by decide +kernel
theorem dX12_reaches_38 : decode cX12_reaches 38 = .ok (.iconst 0, 1) := by decide +kernel
theorem dX12_reaches_39 : decode cX12_reaches 39 = .ok (.istore_n 3, 1) := by decide +kernel
theorem dX12_reaches_40 : decode cX12_reaches 40 = .ok (.iconst 0, 1) := by decide +kernel
theorem dX12_reaches_41 : decode cX12_reaches 41 = .ok (.istore 4, 2) := by decide +kernel
theorem dX12_reaches_43 : decode cX12_reaches 43 = .ok (.iload 4, 2) := by decide +kernel
theorem dX12_reaches_45 : decode cX12_reaches 45 = .ok (.aload_n 0, 1) := by decide +kernel
theorem dX12_reaches_46 : decode cX12_reaches 46 = .ok (.getfield 131, 3) := by decide +kernel
theorem dX12_reaches_49 : decode cX12_reaches 49 = .ok (.if_icmp .ge 124, 3) := by decide +kernel
theorem dX12_reaches_52 : decode cX12_reaches 52 = .ok (.aload_n 0, 1) := by decide +kernel
theorem dX12_reaches_53 : decode cX12_reaches 53 = .ok (.getfield 89, 3) := by decide +kernel
theorem dX12_reaches_56 : decode cX12_reaches 56 = .ok (.iload 4, 2) := by decide +kernel
theorem dX12_reaches_58 : decode cX12_reaches 58 = .ok (.iaload, 1) := by decide +kernel
theorem dX12_reaches_59 : decode cX12_reaches 59 = .ok (.iconst (-1), 1) := by decide +kernel
theorem dX12_reaches_60 : decode cX12_reaches 60 = .ok (.if_icmp .ne 6, 3) := by decide +kernel
theorem dX12_reaches_63 : decode cX12_reaches 63 = .ok (.goto 104, 3) := by decide +kernel
theorem dX12_reaches_66 : decode cX12_reaches 66 = .ok (.aload_n 0, 1) := by decide +kernel
theorem dX12_reaches_67 : decode cX12_reaches 67 = .ok (.iload 4, 2) := by decide +kernel
theorem dX12_reaches_69 : decode cX12_reaches 69 = .ok (.invokevirtual 428, 3) := by decide +kernel
theorem dX12_reaches_72 : decode cX12_reaches 72 = .ok (.iconst (-1), 1) := by decide +kernel
theorem dX12_reaches_73 : decode cX12_reaches 73 = .ok (.if_icmp .eq 6, 3) := by decide +kernel
theorem dX12_reaches_76 : decode cX12_reaches 76 = .ok (.iload 4, 2) := by decide +kernel
theorem dX12_reaches_78 : decode cX12_reaches 78 = .ok (.ireturn, 1) := by decide +kernel
theorem dX12_reaches_79 : decode cX12_reaches 79 = .ok (.iload_n 1, 1) := by decide +kernel
theorem dX12_reaches_80 : decode cX12_reaches 80 = .ok (.istore 5, 2) := by decide +kernel
theorem dX12_reaches_82 : decode cX12_reaches 82 = .ok (.iload 5, 2) := by decide +kernel
theorem dX12_reaches_84 : decode cX12_reaches 84 = .ok (.aload_n 0, 1) := by decide +kernel
theorem dX12_reaches_85 : decode cX12_reaches 85 = .ok (.getfield 131, 3) := by decide +kernel
theorem dX12_reaches_88 : decode cX12_reaches 88 = .ok (.if_icmp .ge 79, 3) := by decide +kernel
theorem dX12_reaches_91 : decode cX12_reaches 91 = .ok (.aload_n 0, 1) := by decide +kernel
theorem dX12_reaches_92 : decode cX12_reaches 92 = .ok (.getfield 77, 3) := by decide +kernel
theorem dX12_reaches_95 : decode cX12_reaches 95 = .ok (.iload 4, 2) := by decide +kernel
theorem dX12_reaches_97 : decode cX12_reaches 97 = .ok (.iaload, 1) := by decide +kernel
theorem dX12_reaches_98 : decode cX12_reaches 98 = .ok (.aload_n 0, 1) := by decide +kernel
theorem dX12_reaches_99 : decode cX12_reaches 99 = .ok (.getfield 83, 3) := by decide +kernel
theorem dX12_reaches_102 : decode cX12_reaches 102 = .ok (.iload 4, 2) := by decide +kernel
theorem dX12_reaches_104 : decode cX12_reaches 104 = .ok (.iaload, 1) := by decide +kernel
theorem dX12_reaches_105 : decode cX12_reaches 105 = .ok (.iconst (-1), 1) := by decide +kernel
theorem dX12_reaches_106 : decode cX12_reaches 106 = .ok (.ixor, 1) := by decide +kernel
theorem dX12_reaches_107 : decode cX12_reaches 107 = .ok (.iand, 1) := by decide +kernel
theorem dX12_reaches_108 : decode cX12_reaches 108 = .ok (.aload_n 0, 1) := by decide +kernel
theorem dX12_reaches_109 : decode cX12_reaches 109 = .ok (.getfield 83, 3) := by decide +kernel
theorem dX12_reaches_112 : decode cX12_reaches 112 = .ok (.iload 5, 2) := by decide +kernel
theorem dX12_reaches_114 : decode cX12_reaches 114 = .ok (.iaload, 1) := by decide +kernel
theorem dX12_reaches_115 : decode cX12_reaches 115 = .ok (.iand, 1) := by decide +kernel
theorem dX12_reaches_116 : decode cX12_reaches 116 = .ok (.istore 6, 2) := by decide +kernel
theorem dX12_reaches_118 : decode cX12_reaches 118 = .ok (.aload_n 0, 1) := by decide +kernel
theorem dX12_reaches_119 : decode cX12_reaches 119 = .ok (.getfield 89, 3) := by decide +kernel
theorem dX12_reaches_122 : decode cX12_reaches 122 = .ok (.iload 5, 2) := by decide +kernel
theorem dX12_reaches_124 : decode cX12_reaches 124 = .ok (.iaload, 1) := by decide +kernel
theorem dX12_reaches_125 : decode cX12_reaches 125 = .ok (.iconst (-1), 1) := by decide +kernel
theorem dX12_reaches_126 : decode cX12_reaches 126 = .ok (.if_icmp .ne 35, 3) := by decide +kernel
theorem dX12_reaches_129 : decode cX12_reaches 129 = .ok (.iload 6, 2) := by decide +kernel
theorem dX12_reaches_131 : decode cX12_reaches 131 = .ok (.ifCond .ne 6, 3) := by decide +kernel
theorem dX12_reaches_134 : decode cX12_reaches 134 = .ok (.goto 27, 3) := by decide +kernel
theorem dX12_reaches_137 : decode cX12_reaches 137 = .ok (.aload_n 0, 1) := by decide +kernel
theorem dX12_reaches_138 : decode cX12_reaches 138 = .ok (.getfield 89, 3) := by decide +kernel
theorem dX12_reaches_141 : decode cX12_reaches 141 = .ok (.iload 5, 2) := by decide +kernel
theorem dX12_reaches_143 : decode cX12_reaches 143 = .ok (.iload 4, 2) := by decide +kernel
theorem dX12_reaches_145 : decode cX12_reaches 145 = .ok (.iastore, 1) := by decide +kernel
theorem dX12_reaches_146 : decode cX12_reaches 146 = .ok (.aload_n 0, 1) := by decide +kernel
theorem dX12_reaches_147 : decode cX12_reaches 147 = .ok (.getfield 92, 3) := by decide +kernel
theorem dX12_reaches_150 : decode cX12_reaches 150 = .ok (.iload 5, 2) := by decide +kernel
theorem dX12_reaches_152 : decode cX12_reaches 152 = .ok (.iload 6, 2) := by decide +kernel
theorem dX12_reaches_154 : decode cX12_reaches 154 = .ok (.iload 6, 2) := by decide +kernel
theorem dX12_reaches_156 : decode cX12_reaches 156 = .ok (.ineg, 1) := by decide +kernel
theorem dX12_reaches_157 : decode cX12_reaches 157 = .ok (.iand, 1) := by decide +kernel
theorem dX12_reaches_158 : decode cX12_reaches 158 = .ok (.iastore, 1) := by decide +kernel
theorem dX12_reaches_159 : decode cX12_reaches 159 = .ok (.iconst 1, 1) := by decide +kernel
theorem dX12_reaches_160 : decode cX12_reaches 160 = .ok (.istore_n 3, 1) := by decide +kernel
theorem dX12_reaches_161 : decode cX12_reaches 161 = .ok (.iinc 5 1, 3) := by decide +kernel
theorem dX12_reaches_164 : decode cX12_reaches 164 = .ok (.goto (-82), 3) := by decide +kernel
theorem dX12_reaches_167 : decode cX12_reaches 167 = .ok (.iinc 4 1, 3) := by decide +kernel
theorem dX12_reaches_170 : decode cX12_reaches 170 = .ok (.goto (-127), 3) := by decide +kernel
theorem dX12_reaches_173 : decode cX12_reaches 173 = .ok (.goto (-139), 3) := by decide +kernel
theorem dX12_reaches_176 : decode cX12_reaches 176 = .ok (.iconst (-1), 1) := by decide +kernel
theorem dX12_reaches_177 : decode cX12_reaches 177 = .ok (.ireturn, 1) := by decide +kernel
theorem dX12_getsOne_0 : decode cX12_getsOne 0 = .ok (.aload_n 0, 1) := by decide +kernel
theorem dX12_getsOne_1 : decode cX12_getsOne 1 = .ok (.iload_n 1, 1) := by decide +kernel
theorem dX12_getsOne_2 : decode cX12_getsOne 2 = .ok (.iload_n 2, 1) := by decide +kernel
theorem dX12_getsOne_3 : decode cX12_getsOne 3 = .ok (.invokevirtual 431, 3) := by decide +kernel
theorem dX12_getsOne_6 : decode cX12_getsOne 6 = .ok (.istore_n 3, 1) := by decide +kernel
theorem dX12_getsOne_7 : decode cX12_getsOne 7 = .ok (.iload_n 3, 1) := by decide +kernel
theorem dX12_getsOne_8 : decode cX12_getsOne 8 = .ok (.iconst (-1), 1) := by decide +kernel
theorem dX12_getsOne_9 : decode cX12_getsOne 9 = .ok (.if_icmp .ne 5, 3) := by decide +kernel
theorem dX12_getsOne_12 : decode cX12_getsOne 12 = .ok (.iconst 0, 1) := by decide +kernel
theorem dX12_getsOne_13 : decode cX12_getsOne 13 = .ok (.ireturn, 1) := by decide +kernel
theorem dX12_getsOne_14 : decode cX12_getsOne 14 = .ok (.aload_n 0, 1) := by decide +kernel
theorem dX12_getsOne_15 : decode cX12_getsOne 15 = .ok (.iload_n 3, 1) := by decide +kernel
theorem dX12_getsOne_16 : decode cX12_getsOne 16 = .ok (.invokevirtual 428, 3) := by decide +kernel
theorem dX12_getsOne_19 : decode cX12_getsOne 19 = .ok (.istore 4, 2) := by decide +kernel
theorem dX12_getsOne_21 : decode cX12_getsOne 21 = .ok (.aload_n 0, 1) := by decide +kernel
theorem dX12_getsOne_22 : decode cX12_getsOne 22 = .ok (.getfield 86, 3) := by decide +kernel
theorem dX12_getsOne_25 : decode cX12_getsOne 25 = .ok (.iload 4, 2) := by decide +kernel
theorem dX12_getsOne_27 : decode cX12_getsOne 27 = .ok (.aload_n 0, 1) := by decide +kernel
theorem dX12_getsOne_28 : decode cX12_getsOne 28 = .ok (.getfield 86, 3) := by decide +kernel
theorem dX12_getsOne_31 : decode cX12_getsOne 31 = .ok (.iload 4, 2) := by decide +kernel
theorem dX12_getsOne_33 : decode cX12_getsOne 33 = .ok (.iaload, 1) := by decide +kernel
theorem dX12_getsOne_34 : decode cX12_getsOne 34 = .ok (.iconst 1, 1) := by decide +kernel
theorem dX12_getsOne_35 : decode cX12_getsOne 35 = .ok (.isub, 1) := by decide +kernel
theorem dX12_getsOne_36 : decode cX12_getsOne 36 = .ok (.iastore, 1) := by decide +kernel
theorem dX12_getsOne_37 : decode cX12_getsOne 37 = .ok (.iconst 1, 1) := by decide +kernel
theorem dX12_getsOne_38 : decode cX12_getsOne 38 = .ok (.iload 4, 2) := by decide +kernel
theorem dX12_getsOne_40 : decode cX12_getsOne 40 = .ok (.ishl, 1) := by decide +kernel
theorem dX12_getsOne_41 : decode cX12_getsOne 41 = .ok (.istore 5, 2) := by decide +kernel
theorem dX12_getsOne_43 : decode cX12_getsOne 43 = .ok (.iload_n 3, 1) := by decide +kernel
theorem dX12_getsOne_44 : decode cX12_getsOne 44 = .ok (.iload_n 2, 1) := by decide +kernel
theorem dX12_getsOne_45 : decode cX12_getsOne 45 = .ok (.if_icmp .eq 45, 3) := by decide +kernel
theorem dX12_getsOne_48 : decode cX12_getsOne 48 = .ok (.aload_n 0, 1) := by decide +kernel
theorem dX12_getsOne_49 : decode cX12_getsOne 49 = .ok (.getfield 92, 3) := by decide +kernel
theorem dX12_getsOne_52 : decode cX12_getsOne 52 = .ok (.iload_n 3, 1) := by decide +kernel
theorem dX12_getsOne_53 : decode cX12_getsOne 53 = .ok (.iaload, 1) := by decide +kernel
theorem dX12_getsOne_54 : decode cX12_getsOne 54 = .ok (.istore 6, 2) := by decide +kernel
theorem dX12_getsOne_56 : decode cX12_getsOne 56 = .ok (.aload_n 0, 1) := by decide +kernel
theorem dX12_getsOne_57 : decode cX12_getsOne 57 = .ok (.getfield 83, 3) := by decide +kernel
theorem dX12_getsOne_60 : decode cX12_getsOne 60 = .ok (.iload_n 3, 1) := by decide +kernel
theorem dX12_getsOne_61 : decode cX12_getsOne 61 = .ok (.aload_n 0, 1) := by decide +kernel
theorem dX12_getsOne_62 : decode cX12_getsOne 62 = .ok (.getfield 83, 3) := by decide +kernel
theorem dX12_getsOne_65 : decode cX12_getsOne 65 = .ok (.iload_n 3, 1) := by decide +kernel
theorem dX12_getsOne_66 : decode cX12_getsOne 66 = .ok (.iaload, 1) := by decide +kernel
theorem dX12_getsOne_67 : decode cX12_getsOne 67 = .ok (.iload 6, 2) := by decide +kernel
theorem dX12_getsOne_69 : decode cX12_getsOne 69 = .ok (.iconst (-1), 1) := by decide +kernel
theorem dX12_getsOne_70 : decode cX12_getsOne 70 = .ok (.ixor, 1) := by decide +kernel
theorem dX12_getsOne_71 : decode cX12_getsOne 71 = .ok (.iand, 1) := by decide +kernel
theorem dX12_getsOne_72 : decode cX12_getsOne 72 = .ok (.iload 5, 2) := by decide +kernel
theorem dX12_getsOne_74 : decode cX12_getsOne 74 = .ok (.ior, 1) := by decide +kernel
theorem dX12_getsOne_75 : decode cX12_getsOne 75 = .ok (.iastore, 1) := by decide +kernel
theorem dX12_getsOne_76 : decode cX12_getsOne 76 = .ok (.iload 6, 2) := by decide +kernel
theorem dX12_getsOne_78 : decode cX12_getsOne 78 = .ok (.istore 5, 2) := by decide +kernel
theorem dX12_getsOne_80 : decode cX12_getsOne 80 = .ok (.aload_n 0, 1) := by decide +kernel
theorem dX12_getsOne_81 : decode cX12_getsOne 81 = .ok (.getfield 89, 3) := by decide +kernel
theorem dX12_getsOne_84 : decode cX12_getsOne 84 = .ok (.iload_n 3, 1) := by decide +kernel
theorem dX12_getsOne_85 : decode cX12_getsOne 85 = .ok (.iaload, 1) := by decide +kernel
theorem dX12_getsOne_86 : decode cX12_getsOne 86 = .ok (.istore_n 3, 1) := by decide +kernel
theorem dX12_getsOne_87 : decode cX12_getsOne 87 = .ok (.goto (-44), 3) := by decide +kernel
theorem dX12_getsOne_90 : decode cX12_getsOne 90 = .ok (.aload_n 0, 1) := by decide +kernel
theorem dX12_getsOne_91 : decode cX12_getsOne 91 = .ok (.getfield 83, 3) := by decide +kernel
theorem dX12_getsOne_94 : decode cX12_getsOne 94 = .ok (.iload_n 2, 1) := by decide +kernel
theorem dX12_getsOne_95 : decode cX12_getsOne 95 = .ok (.aload_n 0, 1) := by decide +kernel
theorem dX12_getsOne_96 : decode cX12_getsOne 96 = .ok (.getfield 83, 3) := by decide +kernel
theorem dX12_getsOne_99 : decode cX12_getsOne 99 = .ok (.iload_n 2, 1) := by decide +kernel
theorem dX12_getsOne_100 : decode cX12_getsOne 100 = .ok (.iaload, 1) := by decide +kernel
theorem dX12_getsOne_101 : decode cX12_getsOne 101 = .ok (.iload 5, 2) := by decide +kernel
theorem dX12_getsOne_103 : decode cX12_getsOne 103 = .ok (.ior, 1) := by decide +kernel
theorem dX12_getsOne_104 : decode cX12_getsOne 104 = .ok (.iastore, 1) := by decide +kernel
theorem dX12_getsOne_105 : decode cX12_getsOne 105 = .ok (.iconst 1, 1) := by decide +kernel
theorem dX12_getsOne_106 : decode cX12_getsOne 106 = .ok (.ireturn, 1) := by decide +kernel
theorem dX12_canAll_0 : decode cX12_canAll 0 = .ok (.iconst 1, 1) := by decide +kernel
theorem dX12_canAll_1 : decode cX12_canAll 1 = .ok (.istore_n 2, 1) := by decide +kernel
theorem dX12_canAll_2 : decode cX12_canAll 2 = .ok (.iload_n 1, 1) := by decide +kernel
theorem dX12_canAll_3 : decode cX12_canAll 3 = .ok (.istore_n 3, 1) := by decide +kernel
theorem dX12_canAll_4 : decode cX12_canAll 4 = .ok (.iload_n 3, 1) := by decide +kernel
theorem dX12_canAll_5 : decode cX12_canAll 5 = .ok (.aload_n 0, 1) := by decide +kernel
theorem dX12_canAll_6 : decode cX12_canAll 6 = .ok (.getfield 131, 3) := by decide +kernel
theorem dX12_canAll_9 : decode cX12_canAll 9 = .ok (.if_icmp .ge 47, 3) := by decide +kernel
theorem dX12_canAll_12 : decode cX12_canAll 12 = .ok (.aload_n 0, 1) := by decide +kernel
theorem dX12_canAll_13 : decode cX12_canAll 13 = .ok (.getfield 83, 3) := by decide +kernel
theorem dX12_canAll_16 : decode cX12_canAll 16 = .ok (.iload_n 3, 1) := by decide +kernel
theorem dX12_canAll_17 : decode cX12_canAll 17 = .ok (.iconst 0, 1) := by decide +kernel
theorem dX12_canAll_18 : decode cX12_canAll 18 = .ok (.iastore, 1) := by decide +kernel
theorem dX12_canAll_19 : decode cX12_canAll 19 = .ok (.iconst 0, 1) := by decide +kernel
theorem dX12_canAll_20 : decode cX12_canAll 20 = .ok (.istore 4, 2) := by decide +kernel
theorem dX12_canAll_22 : decode cX12_canAll 22 = .ok (.iload 4, 2) := by decide +kernel
theorem dX12_canAll_24 : decode cX12_canAll 24 = .ok (.aload_n 0, 1) := by decide +kernel
theorem dX12_canAll_25 : decode cX12_canAll 25 = .ok (.getfield 80, 3) := by decide +kernel
theorem dX12_canAll_28 : decode cX12_canAll 28 = .ok (.iload_n 3, 1) := by decide +kernel
theorem dX12_canAll_29 : decode cX12_canAll 29 = .ok (.iaload, 1) := by decide +kernel
theorem dX12_canAll_30 : decode cX12_canAll 30 = .ok (.if_icmp .ge 20, 3) := by decide +kernel
theorem dX12_canAll_33 : decode cX12_canAll 33 = .ok (.iload_n 2, 1) := by decide +kernel
theorem dX12_canAll_34 : decode cX12_canAll 34 = .ok (.ifCond .eq 16, 3) := by decide +kernel
theorem dX12_canAll_37 : decode cX12_canAll 37 = .ok (.aload_n 0, 1) := by decide +kernel
theorem dX12_canAll_38 : decode cX12_canAll 38 = .ok (.iload_n 1, 1) := by decide +kernel
theorem dX12_canAll_39 : decode cX12_canAll 39 = .ok (.iload_n 3, 1) := by decide +kernel
theorem dX12_canAll_40 : decode cX12_canAll 40 = .ok (.invokevirtual 434, 3) := by decide +kernel
theorem dX12_canAll_43 : decode cX12_canAll 43 = .ok (.istore_n 2, 1) := by decide +kernel
theorem dX12_canAll_44 : decode cX12_canAll 44 = .ok (.iinc 4 1, 3) := by decide +kernel
theorem dX12_canAll_47 : decode cX12_canAll 47 = .ok (.goto (-25), 3) := by decide +kernel
theorem dX12_canAll_50 : decode cX12_canAll 50 = .ok (.iinc 3 1, 3) := by decide +kernel
theorem dX12_canAll_53 : decode cX12_canAll 53 = .ok (.goto (-49), 3) := by decide +kernel
theorem dX12_canAll_56 : decode cX12_canAll 56 = .ok (.iload_n 2, 1) := by decide +kernel
theorem dX12_canAll_57 : decode cX12_canAll 57 = .ok (.ireturn, 1) := by decide +kernel
theorem dX12_canTake_0 : decode cX12_canTake 0 = .ok (.iconst 0, 1) := by decide +kernel
theorem dX12_canTake_1 : decode cX12_canTake 1 = .ok (.istore_n 3, 1) := by decide +kernel
theorem dX12_canTake_2 : decode cX12_canTake 2 = .ok (.iload_n 3, 1) := by decide +kernel
theorem dX12_canTake_3 : decode cX12_canTake 3 = .ok (.bipush 8, 2) := by decide +kernel
theorem dX12_canTake_5 : decode cX12_canTake 5 = .ok (.if_icmp .ge 21, 3) := by decide +kernel
theorem dX12_canTake_8 : decode cX12_canTake 8 = .ok (.aload_n 0, 1) := by decide +kernel
theorem dX12_canTake_9 : decode cX12_canTake 9 = .ok (.getfield 86, 3) := by decide +kernel
theorem dX12_canTake_12 : decode cX12_canTake 12 = .ok (.iload_n 3, 1) := by decide +kernel
theorem dX12_canTake_13 : decode cX12_canTake 13 = .ok (.aload_n 0, 1) := by decide +kernel
theorem dX12_canTake_14 : decode cX12_canTake 14 = .ok (.getfield 19, 3) := by decide +kernel
theorem dX12_canTake_17 : decode cX12_canTake 17 = .ok (.iload_n 3, 1) := by decide +kernel
theorem dX12_canTake_18 : decode cX12_canTake 18 = .ok (.iaload, 1) := by decide +kernel
theorem dX12_canTake_19 : decode cX12_canTake 19 = .ok (.iastore, 1) := by decide +kernel
theorem dX12_canTake_20 : decode cX12_canTake 20 = .ok (.iinc 3 1, 3) := by decide +kernel
theorem dX12_canTake_23 : decode cX12_canTake 23 = .ok (.goto (-21), 3) := by decide +kernel
theorem dX12_canTake_26 : decode cX12_canTake 26 = .ok (.aload_n 0, 1) := by decide +kernel
theorem dX12_canTake_27 : decode cX12_canTake 27 = .ok (.getfield 95, 3) := by decide +kernel
theorem dX12_canTake_30 : decode cX12_canTake 30 = .ok (.iload_n 1, 1) := by decide +kernel
theorem dX12_canTake_31 : decode cX12_canTake 31 = .ok (.iload_n 2, 1) := by decide +kernel
theorem dX12_canTake_32 : decode cX12_canTake 32 = .ok (.iastore, 1) := by decide +kernel
theorem dX12_canTake_33 : decode cX12_canTake 33 = .ok (.iconst 0, 1) := by decide +kernel
theorem dX12_canTake_34 : decode cX12_canTake 34 = .ok (.istore_n 3, 1) := by decide +kernel
theorem dX12_canTake_35 : decode cX12_canTake 35 = .ok (.iload_n 3, 1) := by decide +kernel
theorem dX12_canTake_36 : decode cX12_canTake 36 = .ok (.iload_n 1, 1) := by decide +kernel
theorem dX12_canTake_37 : decode cX12_canTake 37 = .ok (.if_icmp .gt 56, 3) := by decide +kernel
theorem dX12_canTake_40 : decode cX12_canTake 40 = .ok (.iconst 0, 1) := by decide +kernel
theorem dX12_canTake_41 : decode cX12_canTake 41 = .ok (.istore 4, 2) := by decide +kernel
theorem dX12_canTake_43 : decode cX12_canTake 43 = .ok (.iload 4, 2) := by decide +kernel
theorem dX12_canTake_45 : decode cX12_canTake 45 = .ok (.bipush 8, 2) := by decide +kernel
theorem dX12_canTake_47 : decode cX12_canTake 47 = .ok (.if_icmp .ge 40, 3) := by decide +kernel
theorem dX12_canTake_50 : decode cX12_canTake 50 = .ok (.aload_n 0, 1) := by decide +kernel
theorem dX12_canTake_51 : decode cX12_canTake 51 = .ok (.getfield 95, 3) := by decide +kernel
theorem dX12_canTake_54 : decode cX12_canTake 54 = .ok (.iload_n 3, 1) := by decide +kernel
theorem dX12_canTake_55 : decode cX12_canTake 55 = .ok (.iaload, 1) := by decide +kernel
theorem dX12_canTake_56 : decode cX12_canTake 56 = .ok (.iload 4, 2) := by decide +kernel
theorem dX12_canTake_58 : decode cX12_canTake 58 = .ok (.ishr, 1) := by decide +kernel
theorem dX12_canTake_59 : decode cX12_canTake 59 = .ok (.iconst 1, 1) := by decide +kernel
theorem dX12_canTake_60 : decode cX12_canTake 60 = .ok (.iand, 1) := by decide +kernel
theorem dX12_canTake_61 : decode cX12_canTake 61 = .ok (.iconst 1, 1) := by decide +kernel
theorem dX12_canTake_62 : decode cX12_canTake 62 = .ok (.if_icmp .ne 19, 3) := by decide +kernel
theorem dX12_canTake_65 : decode cX12_canTake 65 = .ok (.aload_n 0, 1) := by decide +kernel
theorem dX12_canTake_66 : decode cX12_canTake 66 = .ok (.getfield 86, 3) := by decide +kernel
theorem dX12_canTake_69 : decode cX12_canTake 69 = .ok (.iload 4, 2) := by decide +kernel
theorem dX12_canTake_71 : decode cX12_canTake 71 = .ok (.aload_n 0, 1) := by decide +kernel
theorem dX12_canTake_72 : decode cX12_canTake 72 = .ok (.getfield 86, 3) := by decide +kernel
theorem dX12_canTake_75 : decode cX12_canTake 75 = .ok (.iload 4, 2) := by decide +kernel
theorem dX12_canTake_77 : decode cX12_canTake 77 = .ok (.iaload, 1) := by decide +kernel
theorem dX12_canTake_78 : decode cX12_canTake 78 = .ok (.iconst 1, 1) := by decide +kernel
theorem dX12_canTake_79 : decode cX12_canTake 79 = .ok (.isub, 1) := by decide +kernel
theorem dX12_canTake_80 : decode cX12_canTake 80 = .ok (.iastore, 1) := by decide +kernel
theorem dX12_canTake_81 : decode cX12_canTake 81 = .ok (.iinc 4 1, 3) := by decide +kernel
theorem dX12_canTake_84 : decode cX12_canTake 84 = .ok (.goto (-41), 3) := by decide +kernel
theorem dX12_canTake_87 : decode cX12_canTake 87 = .ok (.iinc 3 1, 3) := by decide +kernel
theorem dX12_canTake_90 : decode cX12_canTake 90 = .ok (.goto (-55), 3) := by decide +kernel
theorem dX12_canTake_93 : decode cX12_canTake 93 = .ok (.iconst 0, 1) := by decide +kernel
theorem dX12_canTake_94 : decode cX12_canTake 94 = .ok (.istore_n 3, 1) := by decide +kernel
theorem dX12_canTake_95 : decode cX12_canTake 95 = .ok (.iload_n 3, 1) := by decide +kernel
theorem dX12_canTake_96 : decode cX12_canTake 96 = .ok (.bipush 8, 2) := by decide +kernel
theorem dX12_canTake_98 : decode cX12_canTake 98 = .ok (.if_icmp .ge 20, 3) := by decide +kernel
theorem dX12_canTake_101 : decode cX12_canTake 101 = .ok (.aload_n 0, 1) := by decide +kernel
theorem dX12_canTake_102 : decode cX12_canTake 102 = .ok (.getfield 86, 3) := by decide +kernel
theorem dX12_canTake_105 : decode cX12_canTake 105 = .ok (.iload_n 3, 1) := by decide +kernel
theorem dX12_canTake_106 : decode cX12_canTake 106 = .ok (.iaload, 1) := by decide +kernel
theorem dX12_canTake_107 : decode cX12_canTake 107 = .ok (.ifCond .ge 5, 3) := by decide +kernel
theorem dX12_canTake_110 : decode cX12_canTake 110 = .ok (.iconst 0, 1) := by decide +kernel
theorem dX12_canTake_111 : decode cX12_canTake 111 = .ok (.ireturn, 1) := by decide +kernel
theorem dX12_canTake_112 : decode cX12_canTake 112 = .ok (.iinc 3 1, 3) := by decide +kernel
theorem dX12_canTake_115 : decode cX12_canTake 115 = .ok (.goto (-20), 3) := by decide +kernel
theorem dX12_canTake_118 : decode cX12_canTake 118 = .ok (.iconst 0, 1) := by decide +kernel
theorem dX12_canTake_119 : decode cX12_canTake 119 = .ok (.istore_n 3, 1) := by decide +kernel
theorem dX12_canTake_120 : decode cX12_canTake 120 = .ok (.iload_n 3, 1) := by decide +kernel
theorem dX12_canTake_121 : decode cX12_canTake 121 = .ok (.aload_n 0, 1) := by decide +kernel
theorem dX12_canTake_122 : decode cX12_canTake 122 = .ok (.getfield 131, 3) := by decide +kernel
theorem dX12_canTake_125 : decode cX12_canTake 125 = .ok (.if_icmp .ge 16, 3) := by decide +kernel
theorem dX12_canTake_128 : decode cX12_canTake 128 = .ok (.aload_n 0, 1) := by decide +kernel
theorem dX12_canTake_129 : decode cX12_canTake 129 = .ok (.getfield 83, 3) := by decide +kernel
theorem dX12_canTake_132 : decode cX12_canTake 132 = .ok (.iload_n 3, 1) := by decide +kernel
theorem dX12_canTake_133 : decode cX12_canTake 133 = .ok (.iconst 0, 1) := by decide +kernel
theorem dX12_canTake_134 : decode cX12_canTake 134 = .ok (.iastore, 1) := by decide +kernel
theorem dX12_canTake_135 : decode cX12_canTake 135 = .ok (.iinc 3 1, 3) := by decide +kernel
theorem dX12_canTake_138 : decode cX12_canTake 138 = .ok (.goto (-18), 3) := by decide +kernel
theorem dX12_canTake_141 : decode cX12_canTake 141 = .ok (.aload_n 0, 1) := by decide +kernel
theorem dX12_canTake_142 : decode cX12_canTake 142 = .ok (.iload_n 1, 1) := by decide +kernel
theorem dX12_canTake_143 : decode cX12_canTake 143 = .ok (.iconst 1, 1) := by decide +kernel
theorem dX12_canTake_144 : decode cX12_canTake 144 = .ok (.iadd, 1) := by decide +kernel
theorem dX12_canTake_145 : decode cX12_canTake 145 = .ok (.invokevirtual 437, 3) := by decide +kernel
theorem dX12_canTake_148 : decode cX12_canTake 148 = .ok (.ireturn, 1) := by decide +kernel
theorem dX12_setFor_0 : decode cX12_setFor 0 = .ok (.iconst 0, 1) := by decide +kernel
theorem dX12_setFor_1 : decode cX12_setFor 1 = .ok (.istore_n 2, 1) := by decide +kernel
theorem dX12_setFor_2 : decode cX12_setFor 2 = .ok (.iload_n 2, 1) := by decide +kernel
theorem dX12_setFor_3 : decode cX12_setFor 3 = .ok (.sipush 256, 3) := by decide +kernel
theorem dX12_setFor_6 : decode cX12_setFor 6 = .ok (.if_icmp .ge 47, 3) := by decide +kernel
theorem dX12_setFor_9 : decode cX12_setFor 9 = .ok (.iload_n 2, 1) := by decide +kernel
theorem dX12_setFor_10 : decode cX12_setFor 10 = .ok (.aload_n 0, 1) := by decide +kernel
theorem dX12_setFor_11 : decode cX12_setFor 11 = .ok (.getfield 77, 3) := by decide +kernel
theorem dX12_setFor_14 : decode cX12_setFor 14 = .ok (.iload_n 1, 1) := by decide +kernel
theorem dX12_setFor_15 : decode cX12_setFor 15 = .ok (.iaload, 1) := by decide +kernel
theorem dX12_setFor_16 : decode cX12_setFor 16 = .ok (.iconst (-1), 1) := by decide +kernel
theorem dX12_setFor_17 : decode cX12_setFor 17 = .ok (.ixor, 1) := by decide +kernel
theorem dX12_setFor_18 : decode cX12_setFor 18 = .ok (.iand, 1) := by decide +kernel
theorem dX12_setFor_19 : decode cX12_setFor 19 = .ok (.ifCond .ne 28, 3) := by decide +kernel
theorem dX12_setFor_22 : decode cX12_setFor 22 = .ok (.aload_n 0, 1) := by decide +kernel
theorem dX12_setFor_23 : decode cX12_setFor 23 = .ok (.iload_n 2, 1) := by decide +kernel
theorem dX12_setFor_24 : decode cX12_setFor 24 = .ok (.invokevirtual 330, 3) := by decide +kernel
theorem dX12_setFor_27 : decode cX12_setFor 27 = .ok (.aload_n 0, 1) := by decide +kernel
theorem dX12_setFor_28 : decode cX12_setFor 28 = .ok (.getfield 80, 3) := by decide +kernel
theorem dX12_setFor_31 : decode cX12_setFor 31 = .ok (.iload_n 1, 1) := by decide +kernel
theorem dX12_setFor_32 : decode cX12_setFor 32 = .ok (.iaload, 1) := by decide +kernel
theorem dX12_setFor_33 : decode cX12_setFor 33 = .ok (.if_icmp .ne 14, 3) := by decide +kernel
theorem dX12_setFor_36 : decode cX12_setFor 36 = .ok (.aload_n 0, 1) := by decide +kernel
theorem dX12_setFor_37 : decode cX12_setFor 37 = .ok (.iload_n 1, 1) := by decide +kernel
theorem dX12_setFor_38 : decode cX12_setFor 38 = .ok (.iload_n 2, 1) := by decide +kernel
theorem dX12_setFor_39 : decode cX12_setFor 39 = .ok (.invokevirtual 440, 3) := by decide +kernel
theorem dX12_setFor_42 : decode cX12_setFor 42 = .ok (.ifCond .eq 5, 3) := by decide +kernel
theorem dX12_setFor_45 : decode cX12_setFor 45 = .ok (.iload_n 2, 1) := by decide +kernel
theorem dX12_setFor_46 : decode cX12_setFor 46 = .ok (.ireturn, 1) := by decide +kernel
theorem dX12_setFor_47 : decode cX12_setFor 47 = .ok (.iinc 2 1, 3) := by decide +kernel
theorem dX12_setFor_50 : decode cX12_setFor 50 = .ok (.goto (-48), 3) := by decide +kernel
theorem dX12_setFor_53 : decode cX12_setFor 53 = .ok (.iconst (-1), 1) := by decide +kernel
theorem dX12_setFor_54 : decode cX12_setFor 54 = .ok (.ireturn, 1) := by decide +kernel
theorem dX12_gives_0 : decode cX12_gives 0 = .ok (.aload_n 0, 1) := by decide +kernel
theorem dX12_gives_1 : decode cX12_gives 1 = .ok (.iconst 0, 1) := by decide +kernel
theorem dX12_gives_2 : decode cX12_gives 2 = .ok (.putfield 113, 3) := by decide +kernel
theorem dX12_gives_5 : decode cX12_gives 5 = .ok (.iload_n 1, 1) := by decide +kernel
theorem dX12_gives_6 : decode cX12_gives 6 = .ok (.ifCond .eq 22, 3) := by decide +kernel
theorem dX12_gives_9 : decode cX12_gives 9 = .ok (.aload_n 0, 1) := by decide +kernel
theorem dX12_gives_10 : decode cX12_gives 10 = .ok (.iload_n 1, 1) := by decide +kernel
theorem dX12_gives_11 : decode cX12_gives 11 = .ok (.bipush 10, 2) := by decide +kernel
theorem dX12_gives_13 : decode cX12_gives 13 = .ok (.bipush 9, 2) := by decide +kernel
theorem dX12_gives_15 : decode cX12_gives 15 = .ok (.aload_n 0, 1) := by decide +kernel
theorem dX12_gives_16 : decode cX12_gives 16 = .ok (.getfield 131, 3) := by decide +kernel
theorem dX12_gives_19 : decode cX12_gives 19 = .ok (.iadd, 1) := by decide +kernel
theorem dX12_gives_20 : decode cX12_gives 20 = .ok (.invokevirtual 142, 3) := by decide +kernel
theorem dX12_gives_23 : decode cX12_gives 23 = .ok (.ifCond .ne 5, 3) := by decide +kernel
theorem dX12_gives_26 : decode cX12_gives 26 = .ok (.iconst (-1), 1) := by decide +kernel
theorem dX12_gives_27 : decode cX12_gives 27 = .ok (.ireturn, 1) := by decide +kernel
theorem dX12_gives_28 : decode cX12_gives 28 = .ok (.aload_n 0, 1) := by decide +kernel
theorem dX12_gives_29 : decode cX12_gives 29 = .ok (.invokevirtual 443, 3) := by decide +kernel
theorem dX12_gives_32 : decode cX12_gives 32 = .ok (.iconst 0, 1) := by decide +kernel
theorem dX12_gives_33 : decode cX12_gives 33 = .ok (.istore_n 2, 1) := by decide +kernel
theorem dX12_gives_34 : decode cX12_gives 34 = .ok (.iconst 0, 1) := by decide +kernel
theorem dX12_gives_35 : decode cX12_gives 35 = .ok (.istore_n 3, 1) := by decide +kernel
theorem dX12_gives_36 : decode cX12_gives 36 = .ok (.iload_n 3, 1) := by decide +kernel
theorem dX12_gives_37 : decode cX12_gives 37 = .ok (.aload_n 0, 1) := by decide +kernel
theorem dX12_gives_38 : decode cX12_gives 38 = .ok (.getfield 131, 3) := by decide +kernel
theorem dX12_gives_41 : decode cX12_gives 41 = .ok (.if_icmp .ge 45, 3) := by decide +kernel
theorem dX12_gives_44 : decode cX12_gives 44 = .ok (.aload_n 0, 1) := by decide +kernel
theorem dX12_gives_45 : decode cX12_gives 45 = .ok (.getfield 95, 3) := by decide +kernel
theorem dX12_gives_48 : decode cX12_gives 48 = .ok (.iload_n 3, 1) := by decide +kernel
theorem dX12_gives_49 : decode cX12_gives 49 = .ok (.aload_n 0, 1) := by decide +kernel
theorem dX12_gives_50 : decode cX12_gives 50 = .ok (.iload_n 3, 1) := by decide +kernel
theorem dX12_gives_51 : decode cX12_gives 51 = .ok (.invokevirtual 446, 3) := by decide +kernel
theorem dX12_gives_54 : decode cX12_gives 54 = .ok (.iastore, 1) := by decide +kernel
theorem dX12_gives_55 : decode cX12_gives 55 = .ok (.aload_n 0, 1) := by decide +kernel
theorem dX12_gives_56 : decode cX12_gives 56 = .ok (.getfield 95, 3) := by decide +kernel
theorem dX12_gives_59 : decode cX12_gives 59 = .ok (.iload_n 3, 1) := by decide +kernel
theorem dX12_gives_60 : decode cX12_gives 60 = .ok (.iaload, 1) := by decide +kernel
theorem dX12_gives_61 : decode cX12_gives 61 = .ok (.iconst (-1), 1) := by decide +kernel
theorem dX12_gives_62 : decode cX12_gives 62 = .ok (.if_icmp .ne 5, 3) := by decide +kernel
theorem dX12_gives_65 : decode cX12_gives 65 = .ok (.iconst (-1), 1) := by decide +kernel
theorem dX12_gives_66 : decode cX12_gives 66 = .ok (.ireturn, 1) := by decide +kernel
theorem dX12_gives_67 : decode cX12_gives 67 = .ok (.iload_n 2, 1) := by decide +kernel
theorem dX12_gives_68 : decode cX12_gives 68 = .ok (.aload_n 0, 1) := by decide +kernel
theorem dX12_gives_69 : decode cX12_gives 69 = .ok (.aload_n 0, 1) := by decide +kernel
theorem dX12_gives_70 : decode cX12_gives 70 = .ok (.getfield 95, 3) := by decide +kernel
theorem dX12_gives_73 : decode cX12_gives 73 = .ok (.iload_n 3, 1) := by decide +kernel
theorem dX12_gives_74 : decode cX12_gives 74 = .ok (.iaload, 1) := by decide +kernel
theorem dX12_gives_75 : decode cX12_gives 75 = .ok (.invokevirtual 330, 3) := by decide +kernel
theorem dX12_gives_78 : decode cX12_gives 78 = .ok (.iadd, 1) := by decide +kernel
theorem dX12_gives_79 : decode cX12_gives 79 = .ok (.istore_n 2, 1) := by decide +kernel
theorem dX12_gives_80 : decode cX12_gives 80 = .ok (.iinc 3 1, 3) := by decide +kernel
theorem dX12_gives_83 : decode cX12_gives 83 = .ok (.goto (-47), 3) := by decide +kernel
theorem dX12_gives_86 : decode cX12_gives 86 = .ok (.iload_n 1, 1) := by decide +kernel
theorem dX12_gives_87 : decode cX12_gives 87 = .ok (.ifCond .ne 7, 3) := by decide +kernel
theorem dX12_gives_90 : decode cX12_gives 90 = .ok (.iload_n 2, 1) := by decide +kernel
theorem dX12_gives_91 : decode cX12_gives 91 = .ok (.goto 12, 3) := by decide +kernel
theorem dX12_gives_94 : decode cX12_gives 94 = .ok (.aload_n 0, 1) := by decide +kernel
theorem dX12_gives_95 : decode cX12_gives 95 = .ok (.getfield 95, 3) := by decide +kernel
theorem dX12_gives_98 : decode cX12_gives 98 = .ok (.iload_n 1, 1) := by decide +kernel
theorem dX12_gives_99 : decode cX12_gives 99 = .ok (.bipush 10, 2) := by decide +kernel
theorem dX12_gives_101 : decode cX12_gives 101 = .ok (.isub, 1) := by decide +kernel
theorem dX12_gives_102 : decode cX12_gives 102 = .ok (.iaload, 1) := by decide +kernel
theorem dX12_gives_103 : decode cX12_gives 103 = .ok (.ireturn, 1) := by decide +kernel
theorem dX12_done_0 : decode cX12_done 0 = .ok (.aload_n 0, 1) := by decide +kernel
theorem dX12_done_1 : decode cX12_done 1 = .ok (.iconst 0, 1) := by decide +kernel
theorem dX12_done_2 : decode cX12_done 2 = .ok (.putfield 113, 3) := by decide +kernel
theorem dX12_done_5 : decode cX12_done 5 = .ok (.iconst 0, 1) := by decide +kernel
theorem dX12_done_6 : decode cX12_done 6 = .ok (.istore_n 1, 1) := by decide +kernel
theorem dX12_done_7 : decode cX12_done 7 = .ok (.iconst 0, 1) := by decide +kernel
theorem dX12_done_8 : decode cX12_done 8 = .ok (.istore_n 2, 1) := by decide +kernel
theorem dX12_done_9 : decode cX12_done 9 = .ok (.iload_n 2, 1) := by decide +kernel
theorem dX12_done_10 : decode cX12_done 10 = .ok (.aload_n 0, 1) := by decide +kernel
theorem dX12_done_11 : decode cX12_done 11 = .ok (.getfield 303, 3) := by decide +kernel
theorem dX12_done_14 : decode cX12_done 14 = .ok (.if_icmp .ge 53, 3) := by decide +kernel
theorem dX12_done_17 : decode cX12_done 17 = .ok (.aload_n 0, 1) := by decide +kernel
theorem dX12_done_18 : decode cX12_done 18 = .ok (.aload_n 0, 1) := by decide +kernel
theorem dX12_done_19 : decode cX12_done 19 = .ok (.getfield 65, 3) := by decide +kernel
theorem dX12_done_22 : decode cX12_done 22 = .ok (.iconst 3, 1) := by decide +kernel
theorem dX12_done_23 : decode cX12_done 23 = .ok (.iload_n 2, 1) := by decide +kernel
theorem dX12_done_24 : decode cX12_done 24 = .ok (.imul, 1) := by decide +kernel
theorem dX12_done_25 : decode cX12_done 25 = .ok (.iaload, 1) := by decide +kernel
theorem dX12_done_26 : decode cX12_done 26 = .ok (.invokevirtual 327, 3) := by decide +kernel
theorem dX12_done_29 : decode cX12_done 29 = .ok (.aload_n 0, 1) := by decide +kernel
theorem dX12_done_30 : decode cX12_done 30 = .ok (.getfield 65, 3) := by decide +kernel
theorem dX12_done_33 : decode cX12_done 33 = .ok (.iconst 3, 1) := by decide +kernel
theorem dX12_done_34 : decode cX12_done 34 = .ok (.iload_n 2, 1) := by decide +kernel
theorem dX12_done_35 : decode cX12_done 35 = .ok (.imul, 1) := by decide +kernel
theorem dX12_done_36 : decode cX12_done 36 = .ok (.iconst 2, 1) := by decide +kernel
theorem dX12_done_37 : decode cX12_done 37 = .ok (.iadd, 1) := by decide +kernel
theorem dX12_done_38 : decode cX12_done 38 = .ok (.iaload, 1) := by decide +kernel
theorem dX12_done_39 : decode cX12_done 39 = .ok (.ishr, 1) := by decide +kernel
theorem dX12_done_40 : decode cX12_done 40 = .ok (.iconst 1, 1) := by decide +kernel
theorem dX12_done_41 : decode cX12_done 41 = .ok (.iand, 1) := by decide +kernel
theorem dX12_done_42 : decode cX12_done 42 = .ok (.aload_n 0, 1) := by decide +kernel
theorem dX12_done_43 : decode cX12_done 43 = .ok (.getfield 65, 3) := by decide +kernel
theorem dX12_done_46 : decode cX12_done 46 = .ok (.iconst 3, 1) := by decide +kernel
theorem dX12_done_47 : decode cX12_done 47 = .ok (.iload_n 2, 1) := by decide +kernel
theorem dX12_done_48 : decode cX12_done 48 = .ok (.imul, 1) := by decide +kernel
theorem dX12_done_49 : decode cX12_done 49 = .ok (.iconst 1, 1) := by decide +kernel
theorem dX12_done_50 : decode cX12_done 50 = .ok (.iadd, 1) := by decide +kernel
theorem dX12_done_51 : decode cX12_done 51 = .ok (.iaload, 1) := by decide +kernel
theorem dX12_done_52 : decode cX12_done 52 = .ok (.if_icmp .ne 9, 3) := by decide +kernel
theorem dX12_done_55 : decode cX12_done 55 = .ok (.iload_n 1, 1) := by decide +kernel
theorem dX12_done_56 : decode cX12_done 56 = .ok (.iconst 1, 1) := by decide +kernel
theorem dX12_done_57 : decode cX12_done 57 = .ok (.iload_n 2, 1) := by decide +kernel
theorem dX12_done_58 : decode cX12_done 58 = .ok (.ishl, 1) := by decide +kernel
theorem dX12_done_59 : decode cX12_done 59 = .ok (.ior, 1) := by decide +kernel
theorem dX12_done_60 : decode cX12_done 60 = .ok (.istore_n 1, 1) := by decide +kernel
theorem dX12_done_61 : decode cX12_done 61 = .ok (.iinc 2 1, 3) := by decide +kernel
theorem dX12_done_64 : decode cX12_done 64 = .ok (.goto (-55), 3) := by decide +kernel
theorem dX12_done_67 : decode cX12_done 67 = .ok (.iload_n 1, 1) := by decide +kernel
theorem dX12_done_68 : decode cX12_done 68 = .ok (.ireturn, 1) := by decide +kernel
theorem dX12_areAtPeace_0 : decode cX12_areAtPeace 0 = .ok (.iconst 0, 1) := by decide +kernel
theorem dX12_areAtPeace_1 : decode cX12_areAtPeace 1 = .ok (.istore_n 2, 1) := by decide +kernel
theorem dX12_areAtPeace_2 : decode cX12_areAtPeace 2 = .ok (.iload_n 2, 1) := by decide +kernel
theorem dX12_areAtPeace_3 : decode cX12_areAtPeace 3 = .ok (.aload_n 0, 1) := by decide +kernel
theorem dX12_areAtPeace_4 : decode cX12_areAtPeace 4 = .ok (.getfield 297, 3) := by decide +kernel
theorem dX12_areAtPeace_7 : decode cX12_areAtPeace 7 = .ok (.if_icmp .ge 45, 3) := by decide +kernel
theorem dX12_areAtPeace_10 : decode cX12_areAtPeace 10 = .ok (.aload_n 0, 1) := by decide +kernel
theorem dX12_areAtPeace_11 : decode cX12_areAtPeace 11 = .ok (.iload_n 2, 1) := by decide +kernel
theorem dX12_areAtPeace_12 : decode cX12_areAtPeace 12 = .ok (.iconst 2, 1) := by decide +kernel
theorem dX12_areAtPeace_13 : decode cX12_areAtPeace 13 = .ok (.invokevirtual 368, 3) := by decide +kernel
theorem dX12_areAtPeace_16 : decode cX12_areAtPeace 16 = .ok (.ifCond .ne 30, 3) := by decide +kernel
theorem dX12_areAtPeace_19 : decode cX12_areAtPeace 19 = .ok (.iload_n 1, 1) := by decide +kernel
theorem dX12_areAtPeace_20 : decode cX12_areAtPeace 20 = .ok (.aload_n 0, 1) := by decide +kernel
theorem dX12_areAtPeace_21 : decode cX12_areAtPeace 21 = .ok (.iload_n 2, 1) := by decide +kernel
theorem dX12_areAtPeace_22 : decode cX12_areAtPeace 22 = .ok (.iconst 0, 1) := by decide +kernel
theorem dX12_areAtPeace_23 : decode cX12_areAtPeace 23 = .ok (.invokevirtual 368, 3) := by decide +kernel
theorem dX12_areAtPeace_26 : decode cX12_areAtPeace 26 = .ok (.ishr, 1) := by decide +kernel
theorem dX12_areAtPeace_27 : decode cX12_areAtPeace 27 = .ok (.iconst 1, 1) := by decide +kernel
theorem dX12_areAtPeace_28 : decode cX12_areAtPeace 28 = .ok (.iand, 1) := by decide +kernel
theorem dX12_areAtPeace_29 : decode cX12_areAtPeace 29 = .ok (.iconst 1, 1) := by decide +kernel
theorem dX12_areAtPeace_30 : decode cX12_areAtPeace 30 = .ok (.if_icmp .ne 16, 3) := by decide +kernel
theorem dX12_areAtPeace_33 : decode cX12_areAtPeace 33 = .ok (.iload_n 1, 1) := by decide +kernel
theorem dX12_areAtPeace_34 : decode cX12_areAtPeace 34 = .ok (.aload_n 0, 1) := by decide +kernel
theorem dX12_areAtPeace_35 : decode cX12_areAtPeace 35 = .ok (.iload_n 2, 1) := by decide +kernel
theorem dX12_areAtPeace_36 : decode cX12_areAtPeace 36 = .ok (.iconst 1, 1) := by decide +kernel
theorem dX12_areAtPeace_37 : decode cX12_areAtPeace 37 = .ok (.invokevirtual 368, 3) := by decide +kernel
theorem dX12_areAtPeace_40 : decode cX12_areAtPeace 40 = .ok (.iand, 1) := by decide +kernel
theorem dX12_areAtPeace_41 : decode cX12_areAtPeace 41 = .ok (.ifCond .eq 5, 3) := by decide +kernel
theorem dX12_areAtPeace_44 : decode cX12_areAtPeace 44 = .ok (.iconst 0, 1) := by decide +kernel
theorem dX12_areAtPeace_45 : decode cX12_areAtPeace 45 = .ok (.ireturn, 1) := by decide +kernel
theorem dX12_areAtPeace_46 : decode cX12_areAtPeace 46 = .ok (.iinc 2 1, 3) := by decide +kernel
theorem dX12_areAtPeace_49 : decode cX12_areAtPeace 49 = .ok (.goto (-47), 3) := by decide +kernel
theorem dX12_areAtPeace_52 : decode cX12_areAtPeace 52 = .ok (.iconst 1, 1) := by decide +kernel
theorem dX12_areAtPeace_53 : decode cX12_areAtPeace 53 = .ok (.ireturn, 1) := by decide +kernel
theorem dX12_struck_0 : decode cX12_struck 0 = .ok (.aload_n 0, 1) := by decide +kernel
theorem dX12_struck_1 : decode cX12_struck 1 = .ok (.iconst 0, 1) := by decide +kernel
theorem dX12_struck_2 : decode cX12_struck 2 = .ok (.putfield 113, 3) := by decide +kernel
theorem dX12_struck_5 : decode cX12_struck 5 = .ok (.aload_n 0, 1) := by decide +kernel
theorem dX12_struck_6 : decode cX12_struck 6 = .ok (.iload_n 1, 1) := by decide +kernel
theorem dX12_struck_7 : decode cX12_struck 7 = .ok (.invokevirtual 156, 3) := by decide +kernel
theorem dX12_struck_10 : decode cX12_struck 10 = .ok (.ifCond .eq 13, 3) := by decide +kernel
theorem dX12_struck_13 : decode cX12_struck 13 = .ok (.aload_n 0, 1) := by decide +kernel
theorem dX12_struck_14 : decode cX12_struck 14 = .ok (.iload_n 2, 1) := by decide +kernel
theorem dX12_struck_15 : decode cX12_struck 15 = .ok (.iconst 0, 1) := by decide +kernel
theorem dX12_struck_16 : decode cX12_struck 16 = .ok (.iconst 1, 1) := by decide +kernel
theorem dX12_struck_17 : decode cX12_struck 17 = .ok (.invokevirtual 142, 3) := by decide +kernel
theorem dX12_struck_20 : decode cX12_struck 20 = .ok (.ifCond .ne 5, 3) := by decide +kernel
theorem dX12_struck_23 : decode cX12_struck 23 = .ok (.iconst (-1), 1) := by decide +kernel
theorem dX12_struck_24 : decode cX12_struck 24 = .ok (.ireturn, 1) := by decide +kernel
theorem dX12_struck_25 : decode cX12_struck 25 = .ok (.aload_n 0, 1) := by decide +kernel
theorem dX12_struck_26 : decode cX12_struck 26 = .ok (.iload_n 1, 1) := by decide +kernel
theorem dX12_struck_27 : decode cX12_struck 27 = .ok (.invokevirtual 327, 3) := by decide +kernel
theorem dX12_struck_30 : decode cX12_struck 30 = .ok (.istore_n 3, 1) := by decide +kernel
theorem dX12_struck_31 : decode cX12_struck 31 = .ok (.iconst (-1), 1) := by decide +kernel
theorem dX12_struck_32 : decode cX12_struck 32 = .ok (.istore 4, 2) := by decide +kernel
theorem dX12_struck_34 : decode cX12_struck 34 = .ok (.ldc_w 449, 3) := by decide +kernel
theorem dX12_struck_37 : decode cX12_struck 37 = .ok (.istore 5, 2) := by decide +kernel
theorem dX12_struck_39 : decode cX12_struck 39 = .ok (.iconst 0, 1) := by decide +kernel
theorem dX12_struck_40 : decode cX12_struck 40 = .ok (.istore 6, 2) := by decide +kernel
theorem dX12_struck_42 : decode cX12_struck 42 = .ok (.iload 6, 2) := by decide +kernel
theorem dX12_struck_44 : decode cX12_struck 44 = .ok (.sipush 256, 3) := by decide +kernel
theorem dX12_struck_47 : decode cX12_struck 47 = .ok (.if_icmp .ge 108, 3) := by decide +kernel
theorem dX12_struck_50 : decode cX12_struck 50 = .ok (.iload 6, 2) := by decide +kernel
theorem dX12_struck_52 : decode cX12_struck 52 = .ok (.iload_n 3, 1) := by decide +kernel
theorem dX12_struck_53 : decode cX12_struck 53 = .ok (.iconst (-1), 1) := by decide +kernel
theorem dX12_struck_54 : decode cX12_struck 54 = .ok (.ixor, 1) := by decide +kernel
theorem dX12_struck_55 : decode cX12_struck 55 = .ok (.iand, 1) := by decide +kernel
theorem dX12_struck_56 : decode cX12_struck 56 = .ok (.ifCond .ne 93, 3) := by decide +kernel
theorem dX12_struck_59 : decode cX12_struck 59 = .ok (.aload_n 0, 1) := by decide +kernel
theorem dX12_struck_60 : decode cX12_struck 60 = .ok (.iload_n 3, 1) := by decide +kernel
theorem dX12_struck_61 : decode cX12_struck 61 = .ok (.iload 6, 2) := by decide +kernel
theorem dX12_struck_63 : decode cX12_struck 63 = .ok (.iconst (-1), 1) := by decide +kernel
theorem dX12_struck_64 : decode cX12_struck 64 = .ok (.ixor, 1) := by decide +kernel
theorem dX12_struck_65 : decode cX12_struck 65 = .ok (.iand, 1) := by decide +kernel
theorem dX12_struck_66 : decode cX12_struck 66 = .ok (.invokevirtual 450, 3) := by decide +kernel
theorem dX12_struck_69 : decode cX12_struck 69 = .ok (.ifCond .ne 6, 3) := by decide +kernel
theorem dX12_struck_72 : decode cX12_struck 72 = .ok (.goto 77, 3) := by decide +kernel
theorem dX12_struck_75 : decode cX12_struck 75 = .ok (.iconst 0, 1) := by decide +kernel
theorem dX12_struck_76 : decode cX12_struck 76 = .ok (.istore 7, 2) := by decide +kernel
theorem dX12_struck_78 : decode cX12_struck 78 = .ok (.iconst 0, 1) := by decide +kernel
theorem dX12_struck_79 : decode cX12_struck 79 = .ok (.istore 8, 2) := by decide +kernel
theorem dX12_struck_81 : decode cX12_struck 81 = .ok (.iload 8, 2) := by decide +kernel
theorem dX12_struck_83 : decode cX12_struck 83 = .ok (.bipush 8, 2) := by decide +kernel
theorem dX12_struck_85 : decode cX12_struck 85 = .ok (.if_icmp .ge 32, 3) := by decide +kernel
theorem dX12_struck_88 : decode cX12_struck 88 = .ok (.iload 6, 2) := by decide +kernel
theorem dX12_struck_90 : decode cX12_struck 90 = .ok (.iload 8, 2) := by decide +kernel
theorem dX12_struck_92 : decode cX12_struck 92 = .ok (.ishr, 1) := by decide +kernel
theorem dX12_struck_93 : decode cX12_struck 93 = .ok (.iconst 1, 1) := by decide +kernel
theorem dX12_struck_94 : decode cX12_struck 94 = .ok (.iand, 1) := by decide +kernel
theorem dX12_struck_95 : decode cX12_struck 95 = .ok (.iconst 1, 1) := by decide +kernel
theorem dX12_struck_96 : decode cX12_struck 96 = .ok (.if_icmp .ne 15, 3) := by decide +kernel
theorem dX12_struck_99 : decode cX12_struck 99 = .ok (.iload 7, 2) := by decide +kernel
theorem dX12_struck_101 : decode cX12_struck 101 = .ok (.aload_n 0, 1) := by decide +kernel
theorem dX12_struck_102 : decode cX12_struck 102 = .ok (.iload_n 1, 1) := by decide +kernel
theorem dX12_struck_103 : decode cX12_struck 103 = .ok (.iload 8, 2) := by decide +kernel
theorem dX12_struck_105 : decode cX12_struck 105 = .ok (.invokevirtual 134, 3) := by decide +kernel
theorem dX12_struck_108 : decode cX12_struck 108 = .ok (.iadd, 1) := by decide +kernel
theorem dX12_struck_109 : decode cX12_struck 109 = .ok (.istore 7, 2) := by decide +kernel
theorem dX12_struck_111 : decode cX12_struck 111 = .ok (.iinc 8 1, 3) := by decide +kernel
theorem dX12_struck_114 : decode cX12_struck 114 = .ok (.goto (-33), 3) := by decide +kernel
theorem dX12_struck_117 : decode cX12_struck 117 = .ok (.iload 7, 2) := by decide +kernel
theorem dX12_struck_119 : decode cX12_struck 119 = .ok (.iload 5, 2) := by decide +kernel
theorem dX12_struck_121 : decode cX12_struck 121 = .ok (.if_icmp .ge 8, 3) := by decide +kernel
theorem dX12_struck_124 : decode cX12_struck 124 = .ok (.iload 6, 2) := by decide +kernel
theorem dX12_struck_126 : decode cX12_struck 126 = .ok (.goto 5, 3) := by decide +kernel
theorem dX12_struck_129 : decode cX12_struck 129 = .ok (.iload 4, 2) := by decide +kernel
theorem dX12_struck_131 : decode cX12_struck 131 = .ok (.istore 4, 2) := by decide +kernel
theorem dX12_struck_133 : decode cX12_struck 133 = .ok (.iload 7, 2) := by decide +kernel
theorem dX12_struck_135 : decode cX12_struck 135 = .ok (.iload 5, 2) := by decide +kernel
theorem dX12_struck_137 : decode cX12_struck 137 = .ok (.if_icmp .ge 8, 3) := by decide +kernel
theorem dX12_struck_140 : decode cX12_struck 140 = .ok (.iload 7, 2) := by decide +kernel
theorem dX12_struck_142 : decode cX12_struck 142 = .ok (.goto 5, 3) := by decide +kernel
theorem dX12_struck_145 : decode cX12_struck 145 = .ok (.iload 5, 2) := by decide +kernel
theorem dX12_struck_147 : decode cX12_struck 147 = .ok (.istore 5, 2) := by decide +kernel
theorem dX12_struck_149 : decode cX12_struck 149 = .ok (.iinc 6 1, 3) := by decide +kernel
theorem dX12_struck_152 : decode cX12_struck 152 = .ok (.goto (-110), 3) := by decide +kernel
theorem dX12_struck_155 : decode cX12_struck 155 = .ok (.iload_n 2, 1) := by decide +kernel
theorem dX12_struck_156 : decode cX12_struck 156 = .ok (.ifCond .ne 8, 3) := by decide +kernel
theorem dX12_struck_159 : decode cX12_struck 159 = .ok (.iload 5, 2) := by decide +kernel
theorem dX12_struck_161 : decode cX12_struck 161 = .ok (.goto 5, 3) := by decide +kernel
theorem dX12_struck_164 : decode cX12_struck 164 = .ok (.iload 4, 2) := by decide +kernel
theorem dX12_struck_166 : decode cX12_struck 166 = .ok (.ireturn, 1) := by decide +kernel
theorem dX12_doesStand_0 : decode cX12_doesStand 0 = .ok (.iconst 0, 1) := by decide +kernel
theorem dX12_doesStand_1 : decode cX12_doesStand 1 = .ok (.istore_n 3, 1) := by decide +kernel
theorem dX12_doesStand_2 : decode cX12_doesStand 2 = .ok (.iconst 0, 1) := by decide +kernel
theorem dX12_doesStand_3 : decode cX12_doesStand 3 = .ok (.istore 4, 2) := by decide +kernel
theorem dX12_doesStand_5 : decode cX12_doesStand 5 = .ok (.iload 4, 2) := by decide +kernel
theorem dX12_doesStand_7 : decode cX12_doesStand 7 = .ok (.aload_n 0, 1) := by decide +kernel
theorem dX12_doesStand_8 : decode cX12_doesStand 8 = .ok (.getfield 297, 3) := by decide +kernel
theorem dX12_doesStand_11 : decode cX12_doesStand 11 = .ok (.if_icmp .ge 51, 3) := by decide +kernel
theorem dX12_doesStand_14 : decode cX12_doesStand 14 = .ok (.aload_n 0, 1) := by decide +kernel
theorem dX12_doesStand_15 : decode cX12_doesStand 15 = .ok (.iload 4, 2) := by decide +kernel
theorem dX12_doesStand_17 : decode cX12_doesStand 17 = .ok (.iconst 2, 1) := by decide +kernel
theorem dX12_doesStand_18 : decode cX12_doesStand 18 = .ok (.invokevirtual 368, 3) := by decide +kernel
theorem dX12_doesStand_21 : decode cX12_doesStand 21 = .ok (.ifCond .eq 35, 3) := by decide +kernel
theorem dX12_doesStand_24 : decode cX12_doesStand 24 = .ok (.aload_n 0, 1) := by decide +kernel
theorem dX12_doesStand_25 : decode cX12_doesStand 25 = .ok (.iload 4, 2) := by decide +kernel
theorem dX12_doesStand_27 : decode cX12_doesStand 27 = .ok (.iconst 0, 1) := by decide +kernel
theorem dX12_doesStand_28 : decode cX12_doesStand 28 = .ok (.invokevirtual 368, 3) := by decide +kernel
theorem dX12_doesStand_31 : decode cX12_doesStand 31 = .ok (.iload_n 1, 1) := by decide +kernel
theorem dX12_doesStand_32 : decode cX12_doesStand 32 = .ok (.if_icmp .eq 6, 3) := by decide +kernel
theorem dX12_doesStand_35 : decode cX12_doesStand 35 = .ok (.goto 21, 3) := by decide +kernel
theorem dX12_doesStand_38 : decode cX12_doesStand 38 = .ok (.aload_n 0, 1) := by decide +kernel
theorem dX12_doesStand_39 : decode cX12_doesStand 39 = .ok (.iload 4, 2) := by decide +kernel
theorem dX12_doesStand_41 : decode cX12_doesStand 41 = .ok (.iconst 1, 1) := by decide +kernel
theorem dX12_doesStand_42 : decode cX12_doesStand 42 = .ok (.invokevirtual 368, 3) := by decide +kernel
theorem dX12_doesStand_45 : decode cX12_doesStand 45 = .ok (.iload_n 2, 1) := by decide +kernel
theorem dX12_doesStand_46 : decode cX12_doesStand 46 = .ok (.iconst (-1), 1) := by decide +kernel
theorem dX12_doesStand_47 : decode cX12_doesStand 47 = .ok (.ixor, 1) := by decide +kernel
theorem dX12_doesStand_48 : decode cX12_doesStand 48 = .ok (.iand, 1) := by decide +kernel
theorem dX12_doesStand_49 : decode cX12_doesStand 49 = .ok (.ifCond .ne 5, 3) := by decide +kernel
theorem dX12_doesStand_52 : decode cX12_doesStand 52 = .ok (.iconst 1, 1) := by decide +kernel
theorem dX12_doesStand_53 : decode cX12_doesStand 53 = .ok (.ireturn, 1) := by decide +kernel
theorem dX12_doesStand_54 : decode cX12_doesStand 54 = .ok (.iconst 1, 1) := by decide +kernel
theorem dX12_doesStand_55 : decode cX12_doesStand 55 = .ok (.istore_n 3, 1) := by decide +kernel
theorem dX12_doesStand_56 : decode cX12_doesStand 56 = .ok (.iinc 4 1, 3) := by decide +kernel
theorem dX12_doesStand_59 : decode cX12_doesStand 59 = .ok (.goto (-54), 3) := by decide +kernel
theorem dX12_doesStand_62 : decode cX12_doesStand 62 = .ok (.iload_n 3, 1) := by decide +kernel
theorem dX12_doesStand_63 : decode cX12_doesStand 63 = .ok (.ifCond .ne 7, 3) := by decide +kernel
theorem dX12_doesStand_66 : decode cX12_doesStand 66 = .ok (.iconst 1, 1) := by decide +kernel
theorem dX12_doesStand_67 : decode cX12_doesStand 67 = .ok (.goto 4, 3) := by decide +kernel
theorem dX12_doesStand_70 : decode cX12_doesStand 70 = .ok (.iconst 0, 1) := by decide +kernel
theorem dX12_doesStand_71 : decode cX12_doesStand 71 = .ok (.ireturn, 1) := by decide +kernel
theorem dX12_down_0 : decode cX12_down 0 = .ok (.aload_n 0, 1) := by decide +kernel
theorem dX12_down_1 : decode cX12_down 1 = .ok (.iconst 0, 1) := by decide +kernel
theorem dX12_down_2 : decode cX12_down 2 = .ok (.putfield 113, 3) := by decide +kernel
theorem dX12_down_5 : decode cX12_down 5 = .ok (.aload_n 0, 1) := by decide +kernel
theorem dX12_down_6 : decode cX12_down 6 = .ok (.iload_n 1, 1) := by decide +kernel
theorem dX12_down_7 : decode cX12_down 7 = .ok (.invokevirtual 156, 3) := by decide +kernel
theorem dX12_down_10 : decode cX12_down 10 = .ok (.ifCond .eq 23, 3) := by decide +kernel
theorem dX12_down_13 : decode cX12_down 13 = .ok (.aload_n 0, 1) := by decide +kernel
theorem dX12_down_14 : decode cX12_down 14 = .ok (.iload_n 2, 1) := by decide +kernel
theorem dX12_down_15 : decode cX12_down 15 = .ok (.invokevirtual 146, 3) := by decide +kernel
theorem dX12_down_18 : decode cX12_down 18 = .ok (.ifCond .eq 15, 3) := by decide +kernel
theorem dX12_down_21 : decode cX12_down 21 = .ok (.aload_n 0, 1) := by decide +kernel
theorem dX12_down_22 : decode cX12_down 22 = .ok (.iload_n 1, 1) := by decide +kernel
theorem dX12_down_23 : decode cX12_down 23 = .ok (.invokevirtual 327, 3) := by decide +kernel
theorem dX12_down_26 : decode cX12_down 26 = .ok (.iload_n 2, 1) := by decide +kernel
theorem dX12_down_27 : decode cX12_down 27 = .ok (.ishr, 1) := by decide +kernel
theorem dX12_down_28 : decode cX12_down 28 = .ok (.iconst 1, 1) := by decide +kernel
theorem dX12_down_29 : decode cX12_down 29 = .ok (.iand, 1) := by decide +kernel
theorem dX12_down_30 : decode cX12_down 30 = .ok (.ifCond .ne 5, 3) := by decide +kernel
theorem dX12_down_33 : decode cX12_down 33 = .ok (.iconst (-1), 1) := by decide +kernel
theorem dX12_down_34 : decode cX12_down 34 = .ok (.ireturn, 1) := by decide +kernel
theorem dX12_down_35 : decode cX12_down 35 = .ok (.aload_n 0, 1) := by decide +kernel
theorem dX12_down_36 : decode cX12_down 36 = .ok (.iload_n 1, 1) := by decide +kernel
theorem dX12_down_37 : decode cX12_down 37 = .ok (.invokevirtual 327, 3) := by decide +kernel
theorem dX12_down_40 : decode cX12_down 40 = .ok (.iconst 1, 1) := by decide +kernel
theorem dX12_down_41 : decode cX12_down 41 = .ok (.iload_n 2, 1) := by decide +kernel
theorem dX12_down_42 : decode cX12_down 42 = .ok (.ishl, 1) := by decide +kernel
theorem dX12_down_43 : decode cX12_down 43 = .ok (.iconst (-1), 1) := by decide +kernel
theorem dX12_down_44 : decode cX12_down 44 = .ok (.ixor, 1) := by decide +kernel
theorem dX12_down_45 : decode cX12_down 45 = .ok (.iand, 1) := by decide +kernel
theorem dX12_down_46 : decode cX12_down 46 = .ok (.istore_n 3, 1) := by decide +kernel
theorem dX12_down_47 : decode cX12_down 47 = .ok (.iconst 0, 1) := by decide +kernel
theorem dX12_down_48 : decode cX12_down 48 = .ok (.istore 4, 2) := by decide +kernel
theorem dX12_down_50 : decode cX12_down 50 = .ok (.iconst (-1), 1) := by decide +kernel
theorem dX12_down_51 : decode cX12_down 51 = .ok (.istore 5, 2) := by decide +kernel
theorem dX12_down_53 : decode cX12_down 53 = .ok (.iload 5, 2) := by decide +kernel
theorem dX12_down_55 : decode cX12_down 55 = .ok (.iload 4, 2) := by decide +kernel
theorem dX12_down_57 : decode cX12_down 57 = .ok (.if_icmp .eq 56, 3) := by decide +kernel
theorem dX12_down_60 : decode cX12_down 60 = .ok (.iload 4, 2) := by decide +kernel
theorem dX12_down_62 : decode cX12_down 62 = .ok (.istore 5, 2) := by decide +kernel
theorem dX12_down_64 : decode cX12_down 64 = .ok (.iconst 0, 1) := by decide +kernel
theorem dX12_down_65 : decode cX12_down 65 = .ok (.istore 6, 2) := by decide +kernel
theorem dX12_down_67 : decode cX12_down 67 = .ok (.iload 6, 2) := by decide +kernel
theorem dX12_down_69 : decode cX12_down 69 = .ok (.bipush 8, 2) := by decide +kernel
theorem dX12_down_71 : decode cX12_down 71 = .ok (.if_icmp .ge 39, 3) := by decide +kernel
theorem dX12_down_74 : decode cX12_down 74 = .ok (.iload_n 3, 1) := by decide +kernel
theorem dX12_down_75 : decode cX12_down 75 = .ok (.iload 6, 2) := by decide +kernel
theorem dX12_down_77 : decode cX12_down 77 = .ok (.ishr, 1) := by decide +kernel
theorem dX12_down_78 : decode cX12_down 78 = .ok (.iconst 1, 1) := by decide +kernel
theorem dX12_down_79 : decode cX12_down 79 = .ok (.iand, 1) := by decide +kernel
theorem dX12_down_80 : decode cX12_down 80 = .ok (.iconst 1, 1) := by decide +kernel
theorem dX12_down_81 : decode cX12_down 81 = .ok (.if_icmp .ne 23, 3) := by decide +kernel
theorem dX12_down_84 : decode cX12_down 84 = .ok (.aload_n 0, 1) := by decide +kernel
theorem dX12_down_85 : decode cX12_down 85 = .ok (.iload 6, 2) := by decide +kernel
theorem dX12_down_87 : decode cX12_down 87 = .ok (.iload 5, 2) := by decide +kernel
theorem dX12_down_89 : decode cX12_down 89 = .ok (.invokevirtual 453, 3) := by decide +kernel
theorem dX12_down_92 : decode cX12_down 92 = .ok (.ifCond .eq 12, 3) := by decide +kernel
theorem dX12_down_95 : decode cX12_down 95 = .ok (.iload 4, 2) := by decide +kernel
theorem dX12_down_97 : decode cX12_down 97 = .ok (.iconst 1, 1) := by decide +kernel
theorem dX12_down_98 : decode cX12_down 98 = .ok (.iload 6, 2) := by decide +kernel
theorem dX12_down_100 : decode cX12_down 100 = .ok (.ishl, 1) := by decide +kernel
theorem dX12_down_101 : decode cX12_down 101 = .ok (.ior, 1) := by decide +kernel
theorem dX12_down_102 : decode cX12_down 102 = .ok (.istore 4, 2) := by decide +kernel
theorem dX12_down_104 : decode cX12_down 104 = .ok (.iinc 6 1, 3) := by decide +kernel
theorem dX12_down_107 : decode cX12_down 107 = .ok (.goto (-40), 3) := by decide +kernel
theorem dX12_down_110 : decode cX12_down 110 = .ok (.goto (-57), 3) := by decide +kernel
theorem dX12_down_113 : decode cX12_down 113 = .ok (.iload_n 3, 1) := by decide +kernel
theorem dX12_down_114 : decode cX12_down 114 = .ok (.iload 4, 2) := by decide +kernel
theorem dX12_down_116 : decode cX12_down 116 = .ok (.iconst (-1), 1) := by decide +kernel
theorem dX12_down_117 : decode cX12_down 117 = .ok (.ixor, 1) := by decide +kernel
theorem dX12_down_118 : decode cX12_down 118 = .ok (.iand, 1) := by decide +kernel
theorem dX12_down_119 : decode cX12_down 119 = .ok (.ireturn, 1) := by decide +kernel
theorem dX12_by_0 : decode cX12_by 0 = .ok (.aload_n 0, 1) := by decide +kernel
theorem dX12_by_1 : decode cX12_by 1 = .ok (.iconst 0, 1) := by decide +kernel
theorem dX12_by_2 : decode cX12_by 2 = .ok (.putfield 113, 3) := by decide +kernel
theorem dX12_by_5 : decode cX12_by 5 = .ok (.aload_n 0, 1) := by decide +kernel
theorem dX12_by_6 : decode cX12_by 6 = .ok (.iload_n 1, 1) := by decide +kernel
theorem dX12_by_7 : decode cX12_by 7 = .ok (.invokevirtual 156, 3) := by decide +kernel
theorem dX12_by_10 : decode cX12_by 10 = .ok (.ifCond .eq 11, 3) := by decide +kernel
theorem dX12_by_13 : decode cX12_by 13 = .ok (.aload_n 0, 1) := by decide +kernel
theorem dX12_by_14 : decode cX12_by 14 = .ok (.iload_n 2, 1) := by decide +kernel
theorem dX12_by_15 : decode cX12_by 15 = .ok (.invokevirtual 146, 3) := by decide +kernel
theorem dX12_by_18 : decode cX12_by 18 = .ok (.ifCond .ne 5, 3) := by decide +kernel
theorem dX12_by_21 : decode cX12_by 21 = .ok (.iconst (-1), 1) := by decide +kernel
theorem dX12_by_22 : decode cX12_by 22 = .ok (.ireturn, 1) := by decide +kernel
theorem dX12_by_23 : decode cX12_by 23 = .ok (.iconst 1, 1) := by decide +kernel
theorem dX12_by_24 : decode cX12_by 24 = .ok (.iload_n 1, 1) := by decide +kernel
theorem dX12_by_25 : decode cX12_by 25 = .ok (.ishl, 1) := by decide +kernel
theorem dX12_by_26 : decode cX12_by 26 = .ok (.istore_n 3, 1) := by decide +kernel
theorem dX12_by_27 : decode cX12_by 27 = .ok (.iconst 0, 1) := by decide +kernel
theorem dX12_by_28 : decode cX12_by 28 = .ok (.istore 4, 2) := by decide +kernel
theorem dX12_by_30 : decode cX12_by 30 = .ok (.iload 4, 2) := by decide +kernel
theorem dX12_by_32 : decode cX12_by 32 = .ok (.bipush 8, 2) := by decide +kernel
theorem dX12_by_34 : decode cX12_by 34 = .ok (.if_icmp .ge 70, 3) := by decide +kernel
theorem dX12_by_37 : decode cX12_by 37 = .ok (.iload_n 3, 1) := by decide +kernel
theorem dX12_by_38 : decode cX12_by 38 = .ok (.istore 5, 2) := by decide +kernel
theorem dX12_by_40 : decode cX12_by 40 = .ok (.iconst 0, 1) := by decide +kernel
theorem dX12_by_41 : decode cX12_by 41 = .ok (.istore 6, 2) := by decide +kernel
theorem dX12_by_43 : decode cX12_by 43 = .ok (.iload 6, 2) := by decide +kernel
theorem dX12_by_45 : decode cX12_by 45 = .ok (.aload_n 0, 1) := by decide +kernel
theorem dX12_by_46 : decode cX12_by 46 = .ok (.getfield 131, 3) := by decide +kernel
theorem dX12_by_49 : decode cX12_by 49 = .ok (.if_icmp .ge 46, 3) := by decide +kernel
theorem dX12_by_52 : decode cX12_by 52 = .ok (.iload_n 3, 1) := by decide +kernel
theorem dX12_by_53 : decode cX12_by 53 = .ok (.iload 6, 2) := by decide +kernel
theorem dX12_by_55 : decode cX12_by 55 = .ok (.ishr, 1) := by decide +kernel
theorem dX12_by_56 : decode cX12_by 56 = .ok (.iconst 1, 1) := by decide +kernel
theorem dX12_by_57 : decode cX12_by 57 = .ok (.iand, 1) := by decide +kernel
theorem dX12_by_58 : decode cX12_by 58 = .ok (.ifCond .ne 6, 3) := by decide +kernel
theorem dX12_by_61 : decode cX12_by 61 = .ok (.goto 28, 3) := by decide +kernel
theorem dX12_by_64 : decode cX12_by 64 = .ok (.aload_n 0, 1) := by decide +kernel
theorem dX12_by_65 : decode cX12_by 65 = .ok (.iload 6, 2) := by decide +kernel
theorem dX12_by_67 : decode cX12_by 67 = .ok (.invokevirtual 324, 3) := by decide +kernel
theorem dX12_by_70 : decode cX12_by 70 = .ok (.iload_n 2, 1) := by decide +kernel
theorem dX12_by_71 : decode cX12_by 71 = .ok (.if_icmp .ne 6, 3) := by decide +kernel
theorem dX12_by_74 : decode cX12_by 74 = .ok (.iload 4, 2) := by decide +kernel
theorem dX12_by_76 : decode cX12_by 76 = .ok (.ireturn, 1) := by decide +kernel
theorem dX12_by_77 : decode cX12_by 77 = .ok (.iload 5, 2) := by decide +kernel
theorem dX12_by_79 : decode cX12_by 79 = .ok (.aload_n 0, 1) := by decide +kernel
theorem dX12_by_80 : decode cX12_by 80 = .ok (.getfield 22, 3) := by decide +kernel
theorem dX12_by_83 : decode cX12_by 83 = .ok (.iload 6, 2) := by decide +kernel
theorem dX12_by_85 : decode cX12_by 85 = .ok (.iaload, 1) := by decide +kernel
theorem dX12_by_86 : decode cX12_by 86 = .ok (.ior, 1) := by decide +kernel
theorem dX12_by_87 : decode cX12_by 87 = .ok (.istore 5, 2) := by decide +kernel
theorem dX12_by_89 : decode cX12_by 89 = .ok (.iinc 6 1, 3) := by decide +kernel
theorem dX12_by_92 : decode cX12_by 92 = .ok (.goto (-49), 3) := by decide +kernel
theorem dX12_by_95 : decode cX12_by 95 = .ok (.iload 5, 2) := by decide +kernel
theorem dX12_by_97 : decode cX12_by 97 = .ok (.istore_n 3, 1) := by decide +kernel
theorem dX12_by_98 : decode cX12_by 98 = .ok (.iinc 4 1, 3) := by decide +kernel
theorem dX12_by_101 : decode cX12_by 101 = .ok (.goto (-71), 3) := by decide +kernel
theorem dX12_by_104 : decode cX12_by 104 = .ok (.iconst (-1), 1) := by decide +kernel
theorem dX12_by_105 : decode cX12_by 105 = .ok (.ireturn, 1) := by decide +kernel
theorem dX12_linesOut_0 : decode cX12_linesOut 0 = .ok (.iconst 0, 1) := by decide +kernel
theorem dX12_linesOut_1 : decode cX12_linesOut 1 = .ok (.istore_n 2, 1) := by decide +kernel
theorem dX12_linesOut_2 : decode cX12_linesOut 2 = .ok (.iconst 0, 1) := by decide +kernel
theorem dX12_linesOut_3 : decode cX12_linesOut 3 = .ok (.istore_n 3, 1) := by decide +kernel
theorem dX12_linesOut_4 : decode cX12_linesOut 4 = .ok (.iload_n 3, 1) := by decide +kernel
theorem dX12_linesOut_5 : decode cX12_linesOut 5 = .ok (.aload_n 0, 1) := by decide +kernel
theorem dX12_linesOut_6 : decode cX12_linesOut 6 = .ok (.getfield 131, 3) := by decide +kernel
theorem dX12_linesOut_9 : decode cX12_linesOut 9 = .ok (.if_icmp .ge 35, 3) := by decide +kernel
theorem dX12_linesOut_12 : decode cX12_linesOut 12 = .ok (.iload_n 1, 1) := by decide +kernel
theorem dX12_linesOut_13 : decode cX12_linesOut 13 = .ok (.iload_n 3, 1) := by decide +kernel
theorem dX12_linesOut_14 : decode cX12_linesOut 14 = .ok (.ishr, 1) := by decide +kernel
theorem dX12_linesOut_15 : decode cX12_linesOut 15 = .ok (.iconst 1, 1) := by decide +kernel
theorem dX12_linesOut_16 : decode cX12_linesOut 16 = .ok (.iand, 1) := by decide +kernel
theorem dX12_linesOut_17 : decode cX12_linesOut 17 = .ok (.iconst 1, 1) := by decide +kernel
theorem dX12_linesOut_18 : decode cX12_linesOut 18 = .ok (.if_icmp .ne 20, 3) := by decide +kernel
theorem dX12_linesOut_21 : decode cX12_linesOut 21 = .ok (.iload_n 2, 1) := by decide +kernel
theorem dX12_linesOut_22 : decode cX12_linesOut 22 = .ok (.aload_n 0, 1) := by decide +kernel
theorem dX12_linesOut_23 : decode cX12_linesOut 23 = .ok (.aload_n 0, 1) := by decide +kernel
theorem dX12_linesOut_24 : decode cX12_linesOut 24 = .ok (.getfield 22, 3) := by decide +kernel
theorem dX12_linesOut_27 : decode cX12_linesOut 27 = .ok (.iload_n 3, 1) := by decide +kernel
theorem dX12_linesOut_28 : decode cX12_linesOut 28 = .ok (.iaload, 1) := by decide +kernel
theorem dX12_linesOut_29 : decode cX12_linesOut 29 = .ok (.iload_n 1, 1) := by decide +kernel
theorem dX12_linesOut_30 : decode cX12_linesOut 30 = .ok (.iconst (-1), 1) := by decide +kernel
theorem dX12_linesOut_31 : decode cX12_linesOut 31 = .ok (.ixor, 1) := by decide +kernel
theorem dX12_linesOut_32 : decode cX12_linesOut 32 = .ok (.iand, 1) := by decide +kernel
theorem dX12_linesOut_33 : decode cX12_linesOut 33 = .ok (.invokevirtual 330, 3) := by decide +kernel
theorem dX12_linesOut_36 : decode cX12_linesOut 36 = .ok (.iadd, 1) := by decide +kernel
theorem dX12_linesOut_37 : decode cX12_linesOut 37 = .ok (.istore_n 2, 1) := by decide +kernel
theorem dX12_linesOut_38 : decode cX12_linesOut 38 = .ok (.iinc 3 1, 3) := by decide +kernel
theorem dX12_linesOut_41 : decode cX12_linesOut 41 = .ok (.goto (-37), 3) := by decide +kernel
theorem dX12_linesOut_44 : decode cX12_linesOut 44 = .ok (.iload_n 2, 1) := by decide +kernel
theorem dX12_linesOut_45 : decode cX12_linesOut 45 = .ok (.ireturn, 1) := by decide +kernel
theorem dX12_part_0 : decode cX12_part 0 = .ok (.aload_n 0, 1) := by decide +kernel
theorem dX12_part_1 : decode cX12_part 1 = .ok (.iconst 0, 1) := by decide +kernel
theorem dX12_part_2 : decode cX12_part 2 = .ok (.putfield 113, 3) := by decide +kernel
theorem dX12_part_5 : decode cX12_part 5 = .ok (.aload_n 0, 1) := by decide +kernel
theorem dX12_part_6 : decode cX12_part 6 = .ok (.iload_n 1, 1) := by decide +kernel
theorem dX12_part_7 : decode cX12_part 7 = .ok (.invokevirtual 156, 3) := by decide +kernel
theorem dX12_part_10 : decode cX12_part 10 = .ok (.ifCond .eq 16, 3) := by decide +kernel
theorem dX12_part_13 : decode cX12_part 13 = .ok (.aload_n 0, 1) := by decide +kernel
theorem dX12_part_14 : decode cX12_part 14 = .ok (.iload_n 2, 1) := by decide +kernel
theorem dX12_part_15 : decode cX12_part 15 = .ok (.invokevirtual 156, 3) := by decide +kernel
theorem dX12_part_18 : decode cX12_part 18 = .ok (.ifCond .eq 8, 3) := by decide +kernel
theorem dX12_part_21 : decode cX12_part 21 = .ok (.iload_n 1, 1) := by decide +kernel
theorem dX12_part_22 : decode cX12_part 22 = .ok (.iload_n 2, 1) := by decide +kernel
theorem dX12_part_23 : decode cX12_part 23 = .ok (.if_icmp .ne 5, 3) := by decide +kernel
theorem dX12_part_26 : decode cX12_part 26 = .ok (.iconst (-1), 1) := by decide +kernel
theorem dX12_part_27 : decode cX12_part 27 = .ok (.ireturn, 1) := by decide +kernel
theorem dX12_part_28 : decode cX12_part 28 = .ok (.ldc_w 449, 3) := by decide +kernel
theorem dX12_part_31 : decode cX12_part 31 = .ok (.istore_n 3, 1) := by decide +kernel
theorem dX12_part_32 : decode cX12_part 32 = .ok (.iconst 0, 1) := by decide +kernel
theorem dX12_part_33 : decode cX12_part 33 = .ok (.istore 4, 2) := by decide +kernel
theorem dX12_part_35 : decode cX12_part 35 = .ok (.iload 4, 2) := by decide +kernel
theorem dX12_part_37 : decode cX12_part 37 = .ok (.iconst 1, 1) := by decide +kernel
theorem dX12_part_38 : decode cX12_part 38 = .ok (.aload_n 0, 1) := by decide +kernel
theorem dX12_part_39 : decode cX12_part 39 = .ok (.getfield 131, 3) := by decide +kernel
theorem dX12_part_42 : decode cX12_part 42 = .ok (.ishl, 1) := by decide +kernel
theorem dX12_part_43 : decode cX12_part 43 = .ok (.if_icmp .ge 45, 3) := by decide +kernel
theorem dX12_part_46 : decode cX12_part 46 = .ok (.iload 4, 2) := by decide +kernel
theorem dX12_part_48 : decode cX12_part 48 = .ok (.iload_n 1, 1) := by decide +kernel
theorem dX12_part_49 : decode cX12_part 49 = .ok (.ishr, 1) := by decide +kernel
theorem dX12_part_50 : decode cX12_part 50 = .ok (.iconst 1, 1) := by decide +kernel
theorem dX12_part_51 : decode cX12_part 51 = .ok (.iand, 1) := by decide +kernel
theorem dX12_part_52 : decode cX12_part 52 = .ok (.iconst 1, 1) := by decide +kernel
theorem dX12_part_53 : decode cX12_part 53 = .ok (.if_icmp .ne 29, 3) := by decide +kernel
theorem dX12_part_56 : decode cX12_part 56 = .ok (.iload 4, 2) := by decide +kernel
theorem dX12_part_58 : decode cX12_part 58 = .ok (.iload_n 2, 1) := by decide +kernel
theorem dX12_part_59 : decode cX12_part 59 = .ok (.ishr, 1) := by decide +kernel
theorem dX12_part_60 : decode cX12_part 60 = .ok (.iconst 1, 1) := by decide +kernel
theorem dX12_part_61 : decode cX12_part 61 = .ok (.iand, 1) := by decide +kernel
theorem dX12_part_62 : decode cX12_part 62 = .ok (.ifCond .ne 20, 3) := by decide +kernel
theorem dX12_part_65 : decode cX12_part 65 = .ok (.aload_n 0, 1) := by decide +kernel
theorem dX12_part_66 : decode cX12_part 66 = .ok (.iload 4, 2) := by decide +kernel
theorem dX12_part_68 : decode cX12_part 68 = .ok (.invokevirtual 456, 3) := by decide +kernel
theorem dX12_part_71 : decode cX12_part 71 = .ok (.iload_n 3, 1) := by decide +kernel
theorem dX12_part_72 : decode cX12_part 72 = .ok (.if_icmp .ge 10, 3) := by decide +kernel
theorem dX12_part_75 : decode cX12_part 75 = .ok (.aload_n 0, 1) := by decide +kernel
theorem dX12_part_76 : decode cX12_part 76 = .ok (.iload 4, 2) := by decide +kernel
theorem dX12_part_78 : decode cX12_part 78 = .ok (.invokevirtual 456, 3) := by decide +kernel
theorem dX12_part_81 : decode cX12_part 81 = .ok (.istore_n 3, 1) := by decide +kernel
theorem dX12_part_82 : decode cX12_part 82 = .ok (.iinc 4 1, 3) := by decide +kernel
theorem dX12_part_85 : decode cX12_part 85 = .ok (.goto (-50), 3) := by decide +kernel
theorem dX12_part_88 : decode cX12_part 88 = .ok (.iload_n 3, 1) := by decide +kernel
theorem dX12_part_89 : decode cX12_part 89 = .ok (.ireturn, 1) := by decide +kernel
theorem dX12_talk_0 : decode cX12_talk 0 = .ok (.aload_n 0, 1) := by decide +kernel
theorem dX12_talk_1 : decode cX12_talk 1 = .ok (.iconst 0, 1) := by decide +kernel
theorem dX12_talk_2 : decode cX12_talk 2 = .ok (.putfield 113, 3) := by decide +kernel
theorem dX12_talk_5 : decode cX12_talk 5 = .ok (.iload_n 1, 1) := by decide +kernel
theorem dX12_talk_6 : decode cX12_talk 6 = .ok (.iconst (-1), 1) := by decide +kernel
theorem dX12_talk_7 : decode cX12_talk 7 = .ok (.if_icmp .ne 10, 3) := by decide +kernel
theorem dX12_talk_10 : decode cX12_talk 10 = .ok (.aload_n 0, 1) := by decide +kernel
theorem dX12_talk_11 : decode cX12_talk 11 = .ok (.iconst 0, 1) := by decide +kernel
theorem dX12_talk_12 : decode cX12_talk 12 = .ok (.putfield 459, 3) := by decide +kernel
theorem dX12_talk_15 : decode cX12_talk 15 = .ok (.iconst 0, 1) := by decide +kernel
theorem dX12_talk_16 : decode cX12_talk 16 = .ok (.ireturn, 1) := by decide +kernel
theorem dX12_talk_17 : decode cX12_talk 17 = .ok (.aload_n 0, 1) := by decide +kernel
theorem dX12_talk_18 : decode cX12_talk 18 = .ok (.iload_n 1, 1) := by decide +kernel
theorem dX12_talk_19 : decode cX12_talk 19 = .ok (.invokevirtual 156, 3) := by decide +kernel
theorem dX12_talk_22 : decode cX12_talk 22 = .ok (.ifCond .eq 30, 3) := by decide +kernel
theorem dX12_talk_25 : decode cX12_talk 25 = .ok (.aload_n 0, 1) := by decide +kernel
theorem dX12_talk_26 : decode cX12_talk 26 = .ok (.iload_n 2, 1) := by decide +kernel
theorem dX12_talk_27 : decode cX12_talk 27 = .ok (.invokevirtual 146, 3) := by decide +kernel
theorem dX12_talk_30 : decode cX12_talk 30 = .ok (.ifCond .eq 22, 3) := by decide +kernel
theorem dX12_talk_33 : decode cX12_talk 33 = .ok (.aload_n 0, 1) := by decide +kernel
theorem dX12_talk_34 : decode cX12_talk 34 = .ok (.iload_n 3, 1) := by decide +kernel
theorem dX12_talk_35 : decode cX12_talk 35 = .ok (.iconst 0, 1) := by decide +kernel
theorem dX12_talk_36 : decode cX12_talk 36 = .ok (.iconst 1, 1) := by decide +kernel
theorem dX12_talk_37 : decode cX12_talk 37 = .ok (.invokevirtual 142, 3) := by decide +kernel
theorem dX12_talk_40 : decode cX12_talk 40 = .ok (.ifCond .eq 12, 3) := by decide +kernel
theorem dX12_talk_43 : decode cX12_talk 43 = .ok (.aload_n 0, 1) := by decide +kernel
theorem dX12_talk_44 : decode cX12_talk 44 = .ok (.getfield 459, 3) := by decide +kernel
theorem dX12_talk_47 : decode cX12_talk 47 = .ok (.bipush 12, 2) := by decide +kernel
theorem dX12_talk_49 : decode cX12_talk 49 = .ok (.if_icmp .ne 5, 3) := by decide +kernel
theorem dX12_talk_52 : decode cX12_talk 52 = .ok (.iconst (-1), 1) := by decide +kernel
theorem dX12_talk_53 : decode cX12_talk 53 = .ok (.ireturn, 1) := by decide +kernel
theorem dX12_talk_54 : decode cX12_talk 54 = .ok (.aload_n 0, 1) := by decide +kernel
theorem dX12_talk_55 : decode cX12_talk 55 = .ok (.getfield 98, 3) := by decide +kernel
theorem dX12_talk_58 : decode cX12_talk 58 = .ok (.aload_n 0, 1) := by decide +kernel
theorem dX12_talk_59 : decode cX12_talk 59 = .ok (.getfield 459, 3) := by decide +kernel
theorem dX12_talk_62 : decode cX12_talk 62 = .ok (.iload_n 1, 1) := by decide +kernel
theorem dX12_talk_63 : decode cX12_talk 63 = .ok (.iastore, 1) := by decide +kernel
theorem dX12_talk_64 : decode cX12_talk 64 = .ok (.aload_n 0, 1) := by decide +kernel
theorem dX12_talk_65 : decode cX12_talk 65 = .ok (.getfield 101, 3) := by decide +kernel
theorem dX12_talk_68 : decode cX12_talk 68 = .ok (.aload_n 0, 1) := by decide +kernel
theorem dX12_talk_69 : decode cX12_talk 69 = .ok (.getfield 459, 3) := by decide +kernel
theorem dX12_talk_72 : decode cX12_talk 72 = .ok (.iload_n 2, 1) := by decide +kernel
theorem dX12_talk_73 : decode cX12_talk 73 = .ok (.iastore, 1) := by decide +kernel
theorem dX12_talk_74 : decode cX12_talk 74 = .ok (.aload_n 0, 1) := by decide +kernel
theorem dX12_talk_75 : decode cX12_talk 75 = .ok (.getfield 104, 3) := by decide +kernel
theorem dX12_talk_78 : decode cX12_talk 78 = .ok (.aload_n 0, 1) := by decide +kernel
theorem dX12_talk_79 : decode cX12_talk 79 = .ok (.getfield 459, 3) := by decide +kernel
theorem dX12_talk_82 : decode cX12_talk 82 = .ok (.iload_n 3, 1) := by decide +kernel
theorem dX12_talk_83 : decode cX12_talk 83 = .ok (.iastore, 1) := by decide +kernel
theorem dX12_talk_84 : decode cX12_talk 84 = .ok (.aload_n 0, 1) := by decide +kernel
theorem dX12_talk_85 : decode cX12_talk 85 = .ok (.aload_n 0, 1) := by decide +kernel
theorem dX12_talk_86 : decode cX12_talk 86 = .ok (.getfield 459, 3) := by decide +kernel
theorem dX12_talk_89 : decode cX12_talk 89 = .ok (.iconst 1, 1) := by decide +kernel
theorem dX12_talk_90 : decode cX12_talk 90 = .ok (.iadd, 1) := by decide +kernel
theorem dX12_talk_91 : decode cX12_talk 91 = .ok (.putfield 459, 3) := by decide +kernel
theorem dX12_talk_94 : decode cX12_talk 94 = .ok (.aload_n 0, 1) := by decide +kernel
theorem dX12_talk_95 : decode cX12_talk 95 = .ok (.getfield 459, 3) := by decide +kernel
theorem dX12_talk_98 : decode cX12_talk 98 = .ok (.ireturn, 1) := by decide +kernel
theorem dX12_doesFit_0 : decode cX12_doesFit 0 = .ok (.iconst 0, 1) := by decide +kernel
theorem dX12_doesFit_1 : decode cX12_doesFit 1 = .ok (.istore 4, 2) := by decide +kernel
theorem dX12_doesFit_3 : decode cX12_doesFit 3 = .ok (.iconst 0, 1) := by decide +kernel
theorem dX12_doesFit_4 : decode cX12_doesFit 4 = .ok (.istore 5, 2) := by decide +kernel
theorem dX12_doesFit_6 : decode cX12_doesFit 6 = .ok (.iload 5, 2) := by decide +kernel
theorem dX12_doesFit_8 : decode cX12_doesFit 8 = .ok (.aload_n 0, 1) := by decide +kernel
theorem dX12_doesFit_9 : decode cX12_doesFit 9 = .ok (.getfield 459, 3) := by decide +kernel
theorem dX12_doesFit_12 : decode cX12_doesFit 12 = .ok (.if_icmp .ge 47, 3) := by decide +kernel
theorem dX12_doesFit_15 : decode cX12_doesFit 15 = .ok (.aload_n 0, 1) := by decide +kernel
theorem dX12_doesFit_16 : decode cX12_doesFit 16 = .ok (.getfield 98, 3) := by decide +kernel
theorem dX12_doesFit_19 : decode cX12_doesFit 19 = .ok (.iload 5, 2) := by decide +kernel
theorem dX12_doesFit_21 : decode cX12_doesFit 21 = .ok (.iaload, 1) := by decide +kernel
theorem dX12_doesFit_22 : decode cX12_doesFit 22 = .ok (.iload_n 1, 1) := by decide +kernel
theorem dX12_doesFit_23 : decode cX12_doesFit 23 = .ok (.if_icmp .ne 30, 3) := by decide +kernel
theorem dX12_doesFit_26 : decode cX12_doesFit 26 = .ok (.iload_n 2, 1) := by decide +kernel
theorem dX12_doesFit_27 : decode cX12_doesFit 27 = .ok (.aload_n 0, 1) := by decide +kernel
theorem dX12_doesFit_28 : decode cX12_doesFit 28 = .ok (.getfield 101, 3) := by decide +kernel
theorem dX12_doesFit_31 : decode cX12_doesFit 31 = .ok (.iload 5, 2) := by decide +kernel
theorem dX12_doesFit_33 : decode cX12_doesFit 33 = .ok (.iaload, 1) := by decide +kernel
theorem dX12_doesFit_34 : decode cX12_doesFit 34 = .ok (.ishr, 1) := by decide +kernel
theorem dX12_doesFit_35 : decode cX12_doesFit 35 = .ok (.iconst 1, 1) := by decide +kernel
theorem dX12_doesFit_36 : decode cX12_doesFit 36 = .ok (.iand, 1) := by decide +kernel
theorem dX12_doesFit_37 : decode cX12_doesFit 37 = .ok (.aload_n 0, 1) := by decide +kernel
theorem dX12_doesFit_38 : decode cX12_doesFit 38 = .ok (.getfield 104, 3) := by decide +kernel
theorem dX12_doesFit_41 : decode cX12_doesFit 41 = .ok (.iload 5, 2) := by decide +kernel
theorem dX12_doesFit_43 : decode cX12_doesFit 43 = .ok (.iaload, 1) := by decide +kernel
theorem dX12_doesFit_44 : decode cX12_doesFit 44 = .ok (.if_icmp .ne 9, 3) := by decide +kernel
theorem dX12_doesFit_47 : decode cX12_doesFit 47 = .ok (.iload 4, 2) := by decide +kernel
theorem dX12_doesFit_49 : decode cX12_doesFit 49 = .ok (.iconst 1, 1) := by decide +kernel
theorem dX12_doesFit_50 : decode cX12_doesFit 50 = .ok (.iadd, 1) := by decide +kernel
theorem dX12_doesFit_51 : decode cX12_doesFit 51 = .ok (.istore 4, 2) := by decide +kernel
theorem dX12_doesFit_53 : decode cX12_doesFit 53 = .ok (.iinc 5 1, 3) := by decide +kernel
theorem dX12_doesFit_56 : decode cX12_doesFit 56 = .ok (.goto (-50), 3) := by decide +kernel
theorem dX12_doesFit_59 : decode cX12_doesFit 59 = .ok (.aload_n 0, 1) := by decide +kernel
theorem dX12_doesFit_60 : decode cX12_doesFit 60 = .ok (.iload_n 2, 1) := by decide +kernel
theorem dX12_doesFit_61 : decode cX12_doesFit 61 = .ok (.invokevirtual 330, 3) := by decide +kernel
theorem dX12_doesFit_64 : decode cX12_doesFit 64 = .ok (.aload_n 0, 1) := by decide +kernel
theorem dX12_doesFit_65 : decode cX12_doesFit 65 = .ok (.invokevirtual 398, 3) := by decide +kernel
theorem dX12_doesFit_68 : decode cX12_doesFit 68 = .ok (.if_icmp .gt 13, 3) := by decide +kernel
theorem dX12_doesFit_71 : decode cX12_doesFit 71 = .ok (.iload 4, 2) := by decide +kernel
theorem dX12_doesFit_73 : decode cX12_doesFit 73 = .ok (.iload_n 3, 1) := by decide +kernel
theorem dX12_doesFit_74 : decode cX12_doesFit 74 = .ok (.if_icmp .gt 7, 3) := by decide +kernel
theorem dX12_doesFit_77 : decode cX12_doesFit 77 = .ok (.iconst 1, 1) := by decide +kernel
theorem dX12_doesFit_78 : decode cX12_doesFit 78 = .ok (.goto 4, 3) := by decide +kernel
theorem dX12_doesFit_81 : decode cX12_doesFit 81 = .ok (.iconst 0, 1) := by decide +kernel
theorem dX12_doesFit_82 : decode cX12_doesFit 82 = .ok (.ireturn, 1) := by decide +kernel
theorem dX12_fitsWith_0 : decode cX12_fitsWith 0 = .ok (.iconst 0, 1) := by decide +kernel
theorem dX12_fitsWith_1 : decode cX12_fitsWith 1 = .ok (.istore 4, 2) := by decide +kernel
theorem dX12_fitsWith_3 : decode cX12_fitsWith 3 = .ok (.iconst 0, 1) := by decide +kernel
theorem dX12_fitsWith_4 : decode cX12_fitsWith 4 = .ok (.istore 5, 2) := by decide +kernel
theorem dX12_fitsWith_6 : decode cX12_fitsWith 6 = .ok (.iload 5, 2) := by decide +kernel
theorem dX12_fitsWith_8 : decode cX12_fitsWith 8 = .ok (.sipush 256, 3) := by decide +kernel
theorem dX12_fitsWith_11 : decode cX12_fitsWith 11 = .ok (.if_icmp .ge 41, 3) := by decide +kernel
theorem dX12_fitsWith_14 : decode cX12_fitsWith 14 = .ok (.iload_n 3, 1) := by decide +kernel
theorem dX12_fitsWith_15 : decode cX12_fitsWith 15 = .ok (.iconst (-1), 1) := by decide +kernel
theorem dX12_fitsWith_16 : decode cX12_fitsWith 16 = .ok (.if_icmp .eq 13, 3) := by decide +kernel
theorem dX12_fitsWith_19 : decode cX12_fitsWith 19 = .ok (.iload 5, 2) := by decide +kernel
theorem dX12_fitsWith_21 : decode cX12_fitsWith 21 = .ok (.iload_n 3, 1) := by decide +kernel
theorem dX12_fitsWith_22 : decode cX12_fitsWith 22 = .ok (.ishr, 1) := by decide +kernel
theorem dX12_fitsWith_23 : decode cX12_fitsWith 23 = .ok (.iconst 1, 1) := by decide +kernel
theorem dX12_fitsWith_24 : decode cX12_fitsWith 24 = .ok (.iand, 1) := by decide +kernel
theorem dX12_fitsWith_25 : decode cX12_fitsWith 25 = .ok (.iconst 1, 1) := by decide +kernel
theorem dX12_fitsWith_26 : decode cX12_fitsWith 26 = .ok (.if_icmp .ne 20, 3) := by decide +kernel
theorem dX12_fitsWith_29 : decode cX12_fitsWith 29 = .ok (.aload_n 0, 1) := by decide +kernel
theorem dX12_fitsWith_30 : decode cX12_fitsWith 30 = .ok (.iload_n 1, 1) := by decide +kernel
theorem dX12_fitsWith_31 : decode cX12_fitsWith 31 = .ok (.iload 5, 2) := by decide +kernel
theorem dX12_fitsWith_33 : decode cX12_fitsWith 33 = .ok (.iload_n 2, 1) := by decide +kernel
theorem dX12_fitsWith_34 : decode cX12_fitsWith 34 = .ok (.invokevirtual 462, 3) := by decide +kernel
theorem dX12_fitsWith_37 : decode cX12_fitsWith 37 = .ok (.ifCond .eq 9, 3) := by decide +kernel
theorem dX12_fitsWith_40 : decode cX12_fitsWith 40 = .ok (.iload 4, 2) := by decide +kernel
theorem dX12_fitsWith_42 : decode cX12_fitsWith 42 = .ok (.iconst 1, 1) := by decide +kernel
theorem dX12_fitsWith_43 : decode cX12_fitsWith 43 = .ok (.iadd, 1) := by decide +kernel
theorem dX12_fitsWith_44 : decode cX12_fitsWith 44 = .ok (.istore 4, 2) := by decide +kernel
theorem dX12_fitsWith_46 : decode cX12_fitsWith 46 = .ok (.iinc 5 1, 3) := by decide +kernel
theorem dX12_fitsWith_49 : decode cX12_fitsWith 49 = .ok (.goto (-43), 3) := by decide +kernel
theorem dX12_fitsWith_52 : decode cX12_fitsWith 52 = .ok (.iload 4, 2) := by decide +kernel
theorem dX12_fitsWith_54 : decode cX12_fitsWith 54 = .ok (.ireturn, 1) := by decide +kernel
theorem dX12_fits_0 : decode cX12_fits 0 = .ok (.aload_n 0, 1) := by decide +kernel
theorem dX12_fits_1 : decode cX12_fits 1 = .ok (.iconst 0, 1) := by decide +kernel
theorem dX12_fits_2 : decode cX12_fits 2 = .ok (.putfield 113, 3) := by decide +kernel
theorem dX12_fits_5 : decode cX12_fits 5 = .ok (.aload_n 0, 1) := by decide +kernel
theorem dX12_fits_6 : decode cX12_fits 6 = .ok (.iload_n 1, 1) := by decide +kernel
theorem dX12_fits_7 : decode cX12_fits 7 = .ok (.invokevirtual 156, 3) := by decide +kernel
theorem dX12_fits_10 : decode cX12_fits 10 = .ok (.ifCond .eq 23, 3) := by decide +kernel
theorem dX12_fits_13 : decode cX12_fits 13 = .ok (.aload_n 0, 1) := by decide +kernel
theorem dX12_fits_14 : decode cX12_fits 14 = .ok (.iload_n 2, 1) := by decide +kernel
theorem dX12_fits_15 : decode cX12_fits 15 = .ok (.iconst 0, 1) := by decide +kernel
theorem dX12_fits_16 : decode cX12_fits 16 = .ok (.iconst 3, 1) := by decide +kernel
theorem dX12_fits_17 : decode cX12_fits 17 = .ok (.invokevirtual 142, 3) := by decide +kernel
theorem dX12_fits_20 : decode cX12_fits 20 = .ok (.ifCond .eq 13, 3) := by decide +kernel
theorem dX12_fits_23 : decode cX12_fits 23 = .ok (.aload_n 0, 1) := by decide +kernel
theorem dX12_fits_24 : decode cX12_fits 24 = .ok (.iload_n 1, 1) := by decide +kernel
theorem dX12_fits_25 : decode cX12_fits 25 = .ok (.iload_n 2, 1) := by decide +kernel
theorem dX12_fits_26 : decode cX12_fits 26 = .ok (.iconst (-1), 1) := by decide +kernel
theorem dX12_fits_27 : decode cX12_fits 27 = .ok (.invokevirtual 465, 3) := by decide +kernel
theorem dX12_fits_30 : decode cX12_fits 30 = .ok (.goto 4, 3) := by decide +kernel
theorem dX12_fits_33 : decode cX12_fits 33 = .ok (.iconst (-1), 1) := by decide +kernel
theorem dX12_fits_34 : decode cX12_fits 34 = .ok (.ireturn, 1) := by decide +kernel
theorem dX12_ask_0 : decode cX12_ask 0 = .ok (.aload_n 0, 1) := by decide +kernel
theorem dX12_ask_1 : decode cX12_ask 1 = .ok (.iconst 0, 1) := by decide +kernel
theorem dX12_ask_2 : decode cX12_ask 2 = .ok (.putfield 113, 3) := by decide +kernel
theorem dX12_ask_5 : decode cX12_ask 5 = .ok (.aload_n 0, 1) := by decide +kernel
theorem dX12_ask_6 : decode cX12_ask 6 = .ok (.iload_n 1, 1) := by decide +kernel
theorem dX12_ask_7 : decode cX12_ask 7 = .ok (.invokevirtual 156, 3) := by decide +kernel
theorem dX12_ask_10 : decode cX12_ask 10 = .ok (.ifCond .eq 13, 3) := by decide +kernel
theorem dX12_ask_13 : decode cX12_ask 13 = .ok (.aload_n 0, 1) := by decide +kernel
theorem dX12_ask_14 : decode cX12_ask 14 = .ok (.iload_n 2, 1) := by decide +kernel
theorem dX12_ask_15 : decode cX12_ask 15 = .ok (.iconst 0, 1) := by decide +kernel
theorem dX12_ask_16 : decode cX12_ask 16 = .ok (.iconst 3, 1) := by decide +kernel
theorem dX12_ask_17 : decode cX12_ask 17 = .ok (.invokevirtual 142, 3) := by decide +kernel
theorem dX12_ask_20 : decode cX12_ask 20 = .ok (.ifCond .ne 5, 3) := by decide +kernel
theorem dX12_ask_23 : decode cX12_ask 23 = .ok (.iconst (-1), 1) := by decide +kernel
theorem dX12_ask_24 : decode cX12_ask 24 = .ok (.ireturn, 1) := by decide +kernel
theorem dX12_ask_25 : decode cX12_ask 25 = .ok (.aload_n 0, 1) := by decide +kernel
theorem dX12_ask_26 : decode cX12_ask 26 = .ok (.iload_n 1, 1) := by decide +kernel
theorem dX12_ask_27 : decode cX12_ask 27 = .ok (.iload_n 2, 1) := by decide +kernel
theorem dX12_ask_28 : decode cX12_ask 28 = .ok (.iconst (-1), 1) := by decide +kernel
theorem dX12_ask_29 : decode cX12_ask 29 = .ok (.invokevirtual 465, 3) := by decide +kernel
theorem dX12_ask_32 : decode cX12_ask 32 = .ok (.istore_n 3, 1) := by decide +kernel
theorem dX12_ask_33 : decode cX12_ask 33 = .ok (.iload_n 3, 1) := by decide +kernel
theorem dX12_ask_34 : decode cX12_ask 34 = .ok (.iconst 2, 1) := by decide +kernel
theorem dX12_ask_35 : decode cX12_ask 35 = .ok (.if_icmp .ge 5, 3) := by decide +kernel
theorem dX12_ask_38 : decode cX12_ask 38 = .ok (.iconst (-1), 1) := by decide +kernel
theorem dX12_ask_39 : decode cX12_ask 39 = .ok (.ireturn, 1) := by decide +kernel
theorem dX12_ask_40 : decode cX12_ask 40 = .ok (.iconst (-1), 1) := by decide +kernel
theorem dX12_ask_41 : decode cX12_ask 41 = .ok (.istore 4, 2) := by decide +kernel
theorem dX12_ask_43 : decode cX12_ask 43 = .ok (.ldc_w 449, 3) := by decide +kernel
theorem dX12_ask_46 : decode cX12_ask 46 = .ok (.istore 5, 2) := by decide +kernel
theorem dX12_ask_48 : decode cX12_ask 48 = .ok (.iconst 0, 1) := by decide +kernel
theorem dX12_ask_49 : decode cX12_ask 49 = .ok (.istore 6, 2) := by decide +kernel
theorem dX12_ask_51 : decode cX12_ask 51 = .ok (.iload 6, 2) := by decide +kernel
theorem dX12_ask_53 : decode cX12_ask 53 = .ok (.bipush 8, 2) := by decide +kernel
theorem dX12_ask_55 : decode cX12_ask 55 = .ok (.if_icmp .ge 63, 3) := by decide +kernel
theorem dX12_ask_58 : decode cX12_ask 58 = .ok (.aload_n 0, 1) := by decide +kernel
theorem dX12_ask_59 : decode cX12_ask 59 = .ok (.iload_n 1, 1) := by decide +kernel
theorem dX12_ask_60 : decode cX12_ask 60 = .ok (.iload_n 2, 1) := by decide +kernel
theorem dX12_ask_61 : decode cX12_ask 61 = .ok (.iload 6, 2) := by decide +kernel
theorem dX12_ask_63 : decode cX12_ask 63 = .ok (.invokevirtual 465, 3) := by decide +kernel
theorem dX12_ask_66 : decode cX12_ask 66 = .ok (.istore 7, 2) := by decide +kernel
theorem dX12_ask_68 : decode cX12_ask 68 = .ok (.aload_n 0, 1) := by decide +kernel
theorem dX12_ask_69 : decode cX12_ask 69 = .ok (.iload 7, 2) := by decide +kernel
theorem dX12_ask_71 : decode cX12_ask 71 = .ok (.iload_n 3, 1) := by decide +kernel
theorem dX12_ask_72 : decode cX12_ask 72 = .ok (.iload 7, 2) := by decide +kernel
theorem dX12_ask_74 : decode cX12_ask 74 = .ok (.isub, 1) := by decide +kernel
theorem dX12_ask_75 : decode cX12_ask 75 = .ok (.invokevirtual 380, 3) := by decide +kernel
theorem dX12_ask_78 : decode cX12_ask 78 = .ok (.istore 8, 2) := by decide +kernel
theorem dX12_ask_80 : decode cX12_ask 80 = .ok (.iload 8, 2) := by decide +kernel
theorem dX12_ask_82 : decode cX12_ask 82 = .ok (.iload 5, 2) := by decide +kernel
theorem dX12_ask_84 : decode cX12_ask 84 = .ok (.if_icmp .ge 8, 3) := by decide +kernel
theorem dX12_ask_87 : decode cX12_ask 87 = .ok (.iload 6, 2) := by decide +kernel
theorem dX12_ask_89 : decode cX12_ask 89 = .ok (.goto 5, 3) := by decide +kernel
theorem dX12_ask_92 : decode cX12_ask 92 = .ok (.iload 4, 2) := by decide +kernel
theorem dX12_ask_94 : decode cX12_ask 94 = .ok (.istore 4, 2) := by decide +kernel
theorem dX12_ask_96 : decode cX12_ask 96 = .ok (.iload 8, 2) := by decide +kernel
theorem dX12_ask_98 : decode cX12_ask 98 = .ok (.iload 5, 2) := by decide +kernel
theorem dX12_ask_100 : decode cX12_ask 100 = .ok (.if_icmp .ge 8, 3) := by decide +kernel
theorem dX12_ask_103 : decode cX12_ask 103 = .ok (.iload 8, 2) := by decide +kernel
theorem dX12_ask_105 : decode cX12_ask 105 = .ok (.goto 5, 3) := by decide +kernel
theorem dX12_ask_108 : decode cX12_ask 108 = .ok (.iload 5, 2) := by decide +kernel
theorem dX12_ask_110 : decode cX12_ask 110 = .ok (.istore 5, 2) := by decide +kernel
theorem dX12_ask_112 : decode cX12_ask 112 = .ok (.iinc 6 1, 3) := by decide +kernel
theorem dX12_ask_115 : decode cX12_ask 115 = .ok (.goto (-64), 3) := by decide +kernel
theorem dX12_ask_118 : decode cX12_ask 118 = .ok (.iload 4, 2) := by decide +kernel
theorem dX12_ask_120 : decode cX12_ask 120 = .ok (.ireturn, 1) := by decide +kernel
theorem dX12_livesBy_0 : decode cX12_livesBy 0 = .ok (.aload_n 0, 1) := by decide +kernel
theorem dX12_livesBy_1 : decode cX12_livesBy 1 = .ok (.aload_n 0, 1) := by decide +kernel
theorem dX12_livesBy_2 : decode cX12_livesBy 2 = .ok (.iload_n 1, 1) := by decide +kernel
theorem dX12_livesBy_3 : decode cX12_livesBy 3 = .ok (.invokevirtual 327, 3) := by decide +kernel
theorem dX12_livesBy_6 : decode cX12_livesBy 6 = .ok (.invokevirtual 330, 3) := by decide +kernel
theorem dX12_livesBy_9 : decode cX12_livesBy 9 = .ok (.istore 4, 2) := by decide +kernel
theorem dX12_livesBy_11 : decode cX12_livesBy 11 = .ok (.iconst 1, 1) := by decide +kernel
theorem dX12_livesBy_12 : decode cX12_livesBy 12 = .ok (.istore 5, 2) := by decide +kernel
theorem dX12_livesBy_14 : decode cX12_livesBy 14 = .ok (.iconst 0, 1) := by decide +kernel
theorem dX12_livesBy_15 : decode cX12_livesBy 15 = .ok (.istore 6, 2) := by decide +kernel
theorem dX12_livesBy_17 : decode cX12_livesBy 17 = .ok (.iload 6, 2) := by decide +kernel
theorem dX12_livesBy_19 : decode cX12_livesBy 19 = .ok (.iload_n 2, 1) := by decide +kernel
theorem dX12_livesBy_20 : decode cX12_livesBy 20 = .ok (.if_icmp .ge 168, 3) := by decide +kernel
theorem dX12_livesBy_23 : decode cX12_livesBy 23 = .ok (.iload 5, 2) := by decide +kernel
theorem dX12_livesBy_25 : decode cX12_livesBy 25 = .ok (.ifCond .eq 163, 3) := by decide +kernel
theorem dX12_livesBy_28 : decode cX12_livesBy 28 = .ok (.aload_n 0, 1) := by decide +kernel
theorem dX12_livesBy_29 : decode cX12_livesBy 29 = .ok (.getfield 7, 3) := by decide +kernel
theorem dX12_livesBy_32 : decode cX12_livesBy 32 = .ok (.bipush 92, 2) := by decide +kernel
theorem dX12_livesBy_34 : decode cX12_livesBy 34 = .ok (.iload_n 1, 1) := by decide +kernel
theorem dX12_livesBy_35 : decode cX12_livesBy 35 = .ok (.iadd, 1) := by decide +kernel
theorem dX12_livesBy_36 : decode cX12_livesBy 36 = .ok (.aload_n 0, 1) := by decide +kernel
theorem dX12_livesBy_37 : decode cX12_livesBy 37 = .ok (.aload_n 0, 1) := by decide +kernel
theorem dX12_livesBy_38 : decode cX12_livesBy 38 = .ok (.getfield 7, 3) := by decide +kernel
theorem dX12_livesBy_41 : decode cX12_livesBy 41 = .ok (.bipush 92, 2) := by decide +kernel
theorem dX12_livesBy_43 : decode cX12_livesBy 43 = .ok (.iload_n 1, 1) := by decide +kernel
theorem dX12_livesBy_44 : decode cX12_livesBy 44 = .ok (.iadd, 1) := by decide +kernel
theorem dX12_livesBy_45 : decode cX12_livesBy 45 = .ok (.iaload, 1) := by decide +kernel
theorem dX12_livesBy_46 : decode cX12_livesBy 46 = .ok (.iload_n 3, 1) := by decide +kernel
theorem dX12_livesBy_47 : decode cX12_livesBy 47 = .ok (.iadd, 1) := by decide +kernel
theorem dX12_livesBy_48 : decode cX12_livesBy 48 = .ok (.iconst 0, 1) := by decide +kernel
theorem dX12_livesBy_49 : decode cX12_livesBy 49 = .ok (.bipush 99, 2) := by decide +kernel
theorem dX12_livesBy_51 : decode cX12_livesBy 51 = .ok (.invokevirtual 336, 3) := by decide +kernel
theorem dX12_livesBy_54 : decode cX12_livesBy 54 = .ok (.iastore, 1) := by decide +kernel
theorem dX12_livesBy_55 : decode cX12_livesBy 55 = .ok (.aload_n 0, 1) := by decide +kernel
theorem dX12_livesBy_56 : decode cX12_livesBy 56 = .ok (.iload_n 1, 1) := by decide +kernel
theorem dX12_livesBy_57 : decode cX12_livesBy 57 = .ok (.invokevirtual 371, 3) := by decide +kernel
theorem dX12_livesBy_60 : decode cX12_livesBy 60 = .ok (.aload_n 0, 1) := by decide +kernel
theorem dX12_livesBy_61 : decode cX12_livesBy 61 = .ok (.getfield 71, 3) := by decide +kernel
theorem dX12_livesBy_64 : decode cX12_livesBy 64 = .ok (.bipush 6, 2) := by decide +kernel
theorem dX12_livesBy_66 : decode cX12_livesBy 66 = .ok (.iload 4, 2) := by decide +kernel
theorem dX12_livesBy_68 : decode cX12_livesBy 68 = .ok (.iastore, 1) := by decide +kernel
theorem dX12_livesBy_69 : decode cX12_livesBy 69 = .ok (.aload_n 0, 1) := by decide +kernel
theorem dX12_livesBy_70 : decode cX12_livesBy 70 = .ok (.invokevirtual 374, 3) := by decide +kernel
theorem dX12_livesBy_73 : decode cX12_livesBy 73 = .ok (.istore 7, 2) := by decide +kernel
theorem dX12_livesBy_75 : decode cX12_livesBy 75 = .ok (.aload_n 0, 1) := by decide +kernel
theorem dX12_livesBy_76 : decode cX12_livesBy 76 = .ok (.invokevirtual 377, 3) := by decide +kernel
theorem dX12_livesBy_79 : decode cX12_livesBy 79 = .ok (.istore 8, 2) := by decide +kernel
theorem dX12_livesBy_81 : decode cX12_livesBy 81 = .ok (.aload_n 0, 1) := by decide +kernel
theorem dX12_livesBy_82 : decode cX12_livesBy 82 = .ok (.iload_n 1, 1) := by decide +kernel
theorem dX12_livesBy_83 : decode cX12_livesBy 83 = .ok (.aload_n 0, 1) := by decide +kernel
theorem dX12_livesBy_84 : decode cX12_livesBy 84 = .ok (.iload_n 1, 1) := by decide +kernel
theorem dX12_livesBy_85 : decode cX12_livesBy 85 = .ok (.invokevirtual 324, 3) := by decide +kernel
theorem dX12_livesBy_88 : decode cX12_livesBy 88 = .ok (.aload_n 0, 1) := by decide +kernel
theorem dX12_livesBy_89 : decode cX12_livesBy 89 = .ok (.iconst 0, 1) := by decide +kernel
theorem dX12_livesBy_90 : decode cX12_livesBy 90 = .ok (.aload_n 0, 1) := by decide +kernel
theorem dX12_livesBy_91 : decode cX12_livesBy 91 = .ok (.iload_n 1, 1) := by decide +kernel
theorem dX12_livesBy_92 : decode cX12_livesBy 92 = .ok (.aload_n 0, 1) := by decide +kernel
theorem dX12_livesBy_93 : decode cX12_livesBy 93 = .ok (.iload_n 1, 1) := by decide +kernel
theorem dX12_livesBy_94 : decode cX12_livesBy 94 = .ok (.invokevirtual 324, 3) := by decide +kernel
theorem dX12_livesBy_97 : decode cX12_livesBy 97 = .ok (.invokevirtual 134, 3) := by decide +kernel
theorem dX12_livesBy_100 : decode cX12_livesBy 100 = .ok (.iload 7, 2) := by decide +kernel
theorem dX12_livesBy_102 : decode cX12_livesBy 102 = .ok (.isub, 1) := by decide +kernel
theorem dX12_livesBy_103 : decode cX12_livesBy 103 = .ok (.invokevirtual 380, 3) := by decide +kernel
theorem dX12_livesBy_106 : decode cX12_livesBy 106 = .ok (.invokevirtual 138, 3) := by decide +kernel
theorem dX12_livesBy_109 : decode cX12_livesBy 109 = .ok (.aload_n 0, 1) := by decide +kernel
theorem dX12_livesBy_110 : decode cX12_livesBy 110 = .ok (.getfield 7, 3) := by decide +kernel
theorem dX12_livesBy_113 : decode cX12_livesBy 113 = .ok (.bipush 76, 2) := by decide +kernel
theorem dX12_livesBy_115 : decode cX12_livesBy 115 = .ok (.iload_n 1, 1) := by decide +kernel
theorem dX12_livesBy_116 : decode cX12_livesBy 116 = .ok (.iadd, 1) := by decide +kernel
theorem dX12_livesBy_117 : decode cX12_livesBy 117 = .ok (.aload_n 0, 1) := by decide +kernel
theorem dX12_livesBy_118 : decode cX12_livesBy 118 = .ok (.aload_n 0, 1) := by decide +kernel
theorem dX12_livesBy_119 : decode cX12_livesBy 119 = .ok (.getfield 7, 3) := by decide +kernel
theorem dX12_livesBy_122 : decode cX12_livesBy 122 = .ok (.bipush 76, 2) := by decide +kernel
theorem dX12_livesBy_124 : decode cX12_livesBy 124 = .ok (.iload_n 1, 1) := by decide +kernel
theorem dX12_livesBy_125 : decode cX12_livesBy 125 = .ok (.iadd, 1) := by decide +kernel
theorem dX12_livesBy_126 : decode cX12_livesBy 126 = .ok (.iaload, 1) := by decide +kernel
theorem dX12_livesBy_127 : decode cX12_livesBy 127 = .ok (.iload 8, 2) := by decide +kernel
theorem dX12_livesBy_129 : decode cX12_livesBy 129 = .ok (.iadd, 1) := by decide +kernel
theorem dX12_livesBy_130 : decode cX12_livesBy 130 = .ok (.bipush (-99), 2) := by decide +kernel
theorem dX12_livesBy_132 : decode cX12_livesBy 132 = .ok (.bipush 99, 2) := by decide +kernel
theorem dX12_livesBy_134 : decode cX12_livesBy 134 = .ok (.invokevirtual 336, 3) := by decide +kernel
theorem dX12_livesBy_137 : decode cX12_livesBy 137 = .ok (.iastore, 1) := by decide +kernel
theorem dX12_livesBy_138 : decode cX12_livesBy 138 = .ok (.aload_n 0, 1) := by decide +kernel
theorem dX12_livesBy_139 : decode cX12_livesBy 139 = .ok (.getfield 7, 3) := by decide +kernel
theorem dX12_livesBy_142 : decode cX12_livesBy 142 = .ok (.bipush 92, 2) := by decide +kernel
theorem dX12_livesBy_144 : decode cX12_livesBy 144 = .ok (.iload_n 1, 1) := by decide +kernel
theorem dX12_livesBy_145 : decode cX12_livesBy 145 = .ok (.iadd, 1) := by decide +kernel
theorem dX12_livesBy_146 : decode cX12_livesBy 146 = .ok (.iconst 0, 1) := by decide +kernel
theorem dX12_livesBy_147 : decode cX12_livesBy 147 = .ok (.iastore, 1) := by decide +kernel
theorem dX12_livesBy_148 : decode cX12_livesBy 148 = .ok (.aload_n 0, 1) := by decide +kernel
theorem dX12_livesBy_149 : decode cX12_livesBy 149 = .ok (.getfield 7, 3) := by decide +kernel
theorem dX12_livesBy_152 : decode cX12_livesBy 152 = .ok (.iconst 0, 1) := by decide +kernel
theorem dX12_livesBy_153 : decode cX12_livesBy 153 = .ok (.aload_n 0, 1) := by decide +kernel
theorem dX12_livesBy_154 : decode cX12_livesBy 154 = .ok (.getfield 7, 3) := by decide +kernel
theorem dX12_livesBy_157 : decode cX12_livesBy 157 = .ok (.iconst 0, 1) := by decide +kernel
theorem dX12_livesBy_158 : decode cX12_livesBy 158 = .ok (.iaload, 1) := by decide +kernel
theorem dX12_livesBy_159 : decode cX12_livesBy 159 = .ok (.iconst 1, 1) := by decide +kernel
theorem dX12_livesBy_160 : decode cX12_livesBy 160 = .ok (.iadd, 1) := by decide +kernel
theorem dX12_livesBy_161 : decode cX12_livesBy 161 = .ok (.iastore, 1) := by decide +kernel
theorem dX12_livesBy_162 : decode cX12_livesBy 162 = .ok (.aload_n 0, 1) := by decide +kernel
theorem dX12_livesBy_163 : decode cX12_livesBy 163 = .ok (.getfield 7, 3) := by decide +kernel
theorem dX12_livesBy_166 : decode cX12_livesBy 166 = .ok (.bipush 76, 2) := by decide +kernel
theorem dX12_livesBy_168 : decode cX12_livesBy 168 = .ok (.iload_n 1, 1) := by decide +kernel
theorem dX12_livesBy_169 : decode cX12_livesBy 169 = .ok (.iadd, 1) := by decide +kernel
theorem dX12_livesBy_170 : decode cX12_livesBy 170 = .ok (.iaload, 1) := by decide +kernel
theorem dX12_livesBy_171 : decode cX12_livesBy 171 = .ok (.iconst 1, 1) := by decide +kernel
theorem dX12_livesBy_172 : decode cX12_livesBy 172 = .ok (.if_icmp .lt 7, 3) := by decide +kernel
theorem dX12_livesBy_175 : decode cX12_livesBy 175 = .ok (.iconst 1, 1) := by decide +kernel
theorem dX12_livesBy_176 : decode cX12_livesBy 176 = .ok (.goto 4, 3) := by decide +kernel
theorem dX12_livesBy_179 : decode cX12_livesBy 179 = .ok (.iconst 0, 1) := by decide +kernel
theorem dX12_livesBy_180 : decode cX12_livesBy 180 = .ok (.istore 5, 2) := by decide +kernel
theorem dX12_livesBy_182 : decode cX12_livesBy 182 = .ok (.iinc 6 1, 3) := by decide +kernel
theorem dX12_livesBy_185 : decode cX12_livesBy 185 = .ok (.goto (-168), 3) := by decide +kernel
theorem dX12_livesBy_188 : decode cX12_livesBy 188 = .ok (.aload_n 0, 1) := by decide +kernel
theorem dX12_livesBy_189 : decode cX12_livesBy 189 = .ok (.invokevirtual 123, 3) := by decide +kernel
theorem dX12_livesBy_192 : decode cX12_livesBy 192 = .ok (.iload 5, 2) := by decide +kernel
theorem dX12_livesBy_194 : decode cX12_livesBy 194 = .ok (.ireturn, 1) := by decide +kernel
theorem dX12_waters_0 : decode cX12_waters 0 = .ok (.aload_n 0, 1) := by decide +kernel
theorem dX12_waters_1 : decode cX12_waters 1 = .ok (.iconst 0, 1) := by decide +kernel
theorem dX12_waters_2 : decode cX12_waters 2 = .ok (.putfield 113, 3) := by decide +kernel
theorem dX12_waters_5 : decode cX12_waters 5 = .ok (.aload_n 0, 1) := by decide +kernel
theorem dX12_waters_6 : decode cX12_waters 6 = .ok (.iload_n 1, 1) := by decide +kernel
theorem dX12_waters_7 : decode cX12_waters 7 = .ok (.invokevirtual 156, 3) := by decide +kernel
theorem dX12_waters_10 : decode cX12_waters 10 = .ok (.ifCond .eq 33, 3) := by decide +kernel
theorem dX12_waters_13 : decode cX12_waters 13 = .ok (.aload_n 0, 1) := by decide +kernel
theorem dX12_waters_14 : decode cX12_waters 14 = .ok (.iload_n 1, 1) := by decide +kernel
theorem dX12_waters_15 : decode cX12_waters 15 = .ok (.invokevirtual 324, 3) := by decide +kernel
theorem dX12_waters_18 : decode cX12_waters 18 = .ok (.iconst (-1), 1) := by decide +kernel
theorem dX12_waters_19 : decode cX12_waters 19 = .ok (.if_icmp .eq 24, 3) := by decide +kernel
theorem dX12_waters_22 : decode cX12_waters 22 = .ok (.aload_n 0, 1) := by decide +kernel
theorem dX12_waters_23 : decode cX12_waters 23 = .ok (.iload_n 2, 1) := by decide +kernel
theorem dX12_waters_24 : decode cX12_waters 24 = .ok (.iconst 1, 1) := by decide +kernel
theorem dX12_waters_25 : decode cX12_waters 25 = .ok (.bipush 30, 2) := by decide +kernel
theorem dX12_waters_27 : decode cX12_waters 27 = .ok (.invokevirtual 142, 3) := by decide +kernel
theorem dX12_waters_30 : decode cX12_waters 30 = .ok (.ifCond .eq 13, 3) := by decide +kernel
theorem dX12_waters_33 : decode cX12_waters 33 = .ok (.aload_n 0, 1) := by decide +kernel
theorem dX12_waters_34 : decode cX12_waters 34 = .ok (.iload_n 3, 1) := by decide +kernel
theorem dX12_waters_35 : decode cX12_waters 35 = .ok (.iconst 0, 1) := by decide +kernel
theorem dX12_waters_36 : decode cX12_waters 36 = .ok (.iconst 1, 1) := by decide +kernel
theorem dX12_waters_37 : decode cX12_waters 37 = .ok (.invokevirtual 142, 3) := by decide +kernel
theorem dX12_waters_40 : decode cX12_waters 40 = .ok (.ifCond .ne 5, 3) := by decide +kernel
theorem dX12_waters_43 : decode cX12_waters 43 = .ok (.iconst (-1), 1) := by decide +kernel
theorem dX12_waters_44 : decode cX12_waters 44 = .ok (.ireturn, 1) := by decide +kernel
theorem dX12_waters_45 : decode cX12_waters 45 = .ok (.iconst (-1), 1) := by decide +kernel
theorem dX12_waters_46 : decode cX12_waters 46 = .ok (.istore 4, 2) := by decide +kernel
theorem dX12_waters_48 : decode cX12_waters 48 = .ok (.iconst (-1), 1) := by decide +kernel
theorem dX12_waters_49 : decode cX12_waters 49 = .ok (.istore 5, 2) := by decide +kernel
theorem dX12_waters_51 : decode cX12_waters 51 = .ok (.aload_n 0, 1) := by decide +kernel
theorem dX12_waters_52 : decode cX12_waters 52 = .ok (.invokevirtual 422, 3) := by decide +kernel
theorem dX12_waters_55 : decode cX12_waters 55 = .ok (.iconst 0, 1) := by decide +kernel
theorem dX12_waters_56 : decode cX12_waters 56 = .ok (.istore 6, 2) := by decide +kernel
theorem dX12_waters_58 : decode cX12_waters 58 = .ok (.iload 6, 2) := by decide +kernel
theorem dX12_waters_60 : decode cX12_waters 60 = .ok (.bipush 40, 2) := by decide +kernel
theorem dX12_waters_62 : decode cX12_waters 62 = .ok (.if_icmp .gt 37, 3) := by decide +kernel
theorem dX12_waters_65 : decode cX12_waters 65 = .ok (.aload_n 0, 1) := by decide +kernel
theorem dX12_waters_66 : decode cX12_waters 66 = .ok (.iload_n 1, 1) := by decide +kernel
theorem dX12_waters_67 : decode cX12_waters 67 = .ok (.iload_n 2, 1) := by decide +kernel
theorem dX12_waters_68 : decode cX12_waters 68 = .ok (.iload 6, 2) := by decide +kernel
theorem dX12_waters_70 : decode cX12_waters 70 = .ok (.invokevirtual 468, 3) := by decide +kernel
theorem dX12_waters_73 : decode cX12_waters 73 = .ok (.ifCond .ne 6, 3) := by decide +kernel
theorem dX12_waters_76 : decode cX12_waters 76 = .ok (.goto 17, 3) := by decide +kernel
theorem dX12_waters_79 : decode cX12_waters 79 = .ok (.iload 4, 2) := by decide +kernel
theorem dX12_waters_81 : decode cX12_waters 81 = .ok (.iconst (-1), 1) := by decide +kernel
theorem dX12_waters_82 : decode cX12_waters 82 = .ok (.if_icmp .ne 7, 3) := by decide +kernel
theorem dX12_waters_85 : decode cX12_waters 85 = .ok (.iload 6, 2) := by decide +kernel
theorem dX12_waters_87 : decode cX12_waters 87 = .ok (.istore 4, 2) := by decide +kernel
theorem dX12_waters_89 : decode cX12_waters 89 = .ok (.iload 6, 2) := by decide +kernel
theorem dX12_waters_91 : decode cX12_waters 91 = .ok (.istore 5, 2) := by decide +kernel
theorem dX12_waters_93 : decode cX12_waters 93 = .ok (.iinc 6 1, 3) := by decide +kernel
theorem dX12_waters_96 : decode cX12_waters 96 = .ok (.goto (-38), 3) := by decide +kernel
theorem dX12_waters_99 : decode cX12_waters 99 = .ok (.aload_n 0, 1) := by decide +kernel
theorem dX12_waters_100 : decode cX12_waters 100 = .ok (.invokevirtual 425, 3) := by decide +kernel
theorem dX12_waters_103 : decode cX12_waters 103 = .ok (.iload_n 3, 1) := by decide +kernel
theorem dX12_waters_104 : decode cX12_waters 104 = .ok (.ifCond .ne 8, 3) := by decide +kernel
theorem dX12_waters_107 : decode cX12_waters 107 = .ok (.iload 4, 2) := by decide +kernel
theorem dX12_waters_109 : decode cX12_waters 109 = .ok (.goto 5, 3) := by decide +kernel
theorem dX12_waters_112 : decode cX12_waters 112 = .ok (.iload 5, 2) := by decide +kernel
theorem dX12_waters_114 : decode cX12_waters 114 = .ok (.ireturn, 1) := by decide +kernel
theorem dX12_highOf_0 : decode cX12_highOf 0 = .ok (.aload_n 0, 1) := by decide +kernel
theorem dX12_highOf_1 : decode cX12_highOf 1 = .ok (.iload_n 1, 1) := by decide +kernel
theorem dX12_highOf_2 : decode cX12_highOf 2 = .ok (.invokevirtual 324, 3) := by decide +kernel
theorem dX12_highOf_5 : decode cX12_highOf 5 = .ok (.iconst (-1), 1) := by decide +kernel
theorem dX12_highOf_6 : decode cX12_highOf 6 = .ok (.if_icmp .ne 7, 3) := by decide +kernel
theorem dX12_highOf_9 : decode cX12_highOf 9 = .ok (.iconst 0, 1) := by decide +kernel
theorem dX12_highOf_10 : decode cX12_highOf 10 = .ok (.goto 12, 3) := by decide +kernel
theorem dX12_highOf_13 : decode cX12_highOf 13 = .ok (.aload_n 0, 1) := by decide +kernel
theorem dX12_highOf_14 : decode cX12_highOf 14 = .ok (.getfield 7, 3) := by decide +kernel
theorem dX12_highOf_17 : decode cX12_highOf 17 = .ok (.bipush 76, 2) := by decide +kernel
theorem dX12_highOf_19 : decode cX12_highOf 19 = .ok (.iload_n 1, 1) := by decide +kernel
theorem dX12_highOf_20 : decode cX12_highOf 20 = .ok (.iadd, 1) := by decide +kernel
theorem dX12_highOf_21 : decode cX12_highOf 21 = .ok (.iaload, 1) := by decide +kernel
theorem dX12_highOf_22 : decode cX12_highOf 22 = .ok (.ireturn, 1) := by decide +kernel
theorem dX12_game_0 : decode cX12_game 0 = .ok (.aload_n 0, 1) := by decide +kernel
theorem dX12_game_1 : decode cX12_game 1 = .ok (.iconst 0, 1) := by decide +kernel
theorem dX12_game_2 : decode cX12_game 2 = .ok (.putfield 113, 3) := by decide +kernel
theorem dX12_game_5 : decode cX12_game 5 = .ok (.aload_n 0, 1) := by decide +kernel
theorem dX12_game_6 : decode cX12_game 6 = .ok (.iload_n 1, 1) := by decide +kernel
theorem dX12_game_7 : decode cX12_game 7 = .ok (.iconst 0, 1) := by decide +kernel
theorem dX12_game_8 : decode cX12_game 8 = .ok (.iconst 1, 1) := by decide +kernel
theorem dX12_game_9 : decode cX12_game 9 = .ok (.invokevirtual 142, 3) := by decide +kernel
theorem dX12_game_12 : decode cX12_game 12 = .ok (.ifCond .ne 5, 3) := by decide +kernel
theorem dX12_game_15 : decode cX12_game 15 = .ok (.iconst (-1), 1) := by decide +kernel
theorem dX12_game_16 : decode cX12_game 16 = .ok (.ireturn, 1) := by decide +kernel
theorem dX12_game_17 : decode cX12_game 17 = .ok (.iconst 0, 1) := by decide +kernel
theorem dX12_game_18 : decode cX12_game 18 = .ok (.istore_n 2, 1) := by decide +kernel
theorem dX12_game_19 : decode cX12_game 19 = .ok (.iconst 0, 1) := by decide +kernel
theorem dX12_game_20 : decode cX12_game 20 = .ok (.istore_n 3, 1) := by decide +kernel
theorem dX12_game_21 : decode cX12_game 21 = .ok (.iload_n 3, 1) := by decide +kernel
theorem dX12_game_22 : decode cX12_game 22 = .ok (.aload_n 0, 1) := by decide +kernel
theorem dX12_game_23 : decode cX12_game 23 = .ok (.getfield 131, 3) := by decide +kernel
theorem dX12_game_26 : decode cX12_game 26 = .ok (.if_icmp .ge 17, 3) := by decide +kernel
theorem dX12_game_29 : decode cX12_game 29 = .ok (.iload_n 2, 1) := by decide +kernel
theorem dX12_game_30 : decode cX12_game 30 = .ok (.aload_n 0, 1) := by decide +kernel
theorem dX12_game_31 : decode cX12_game 31 = .ok (.iload_n 3, 1) := by decide +kernel
theorem dX12_game_32 : decode cX12_game 32 = .ok (.invokevirtual 471, 3) := by decide +kernel
theorem dX12_game_35 : decode cX12_game 35 = .ok (.ixor, 1) := by decide +kernel
theorem dX12_game_36 : decode cX12_game 36 = .ok (.istore_n 2, 1) := by decide +kernel
theorem dX12_game_37 : decode cX12_game 37 = .ok (.iinc 3 1, 3) := by decide +kernel
theorem dX12_game_40 : decode cX12_game 40 = .ok (.goto (-19), 3) := by decide +kernel
theorem dX12_game_43 : decode cX12_game 43 = .ok (.iconst 0, 1) := by decide +kernel
theorem dX12_game_44 : decode cX12_game 44 = .ok (.istore_n 3, 1) := by decide +kernel
theorem dX12_game_45 : decode cX12_game 45 = .ok (.iload_n 3, 1) := by decide +kernel
theorem dX12_game_46 : decode cX12_game 46 = .ok (.aload_n 0, 1) := by decide +kernel
theorem dX12_game_47 : decode cX12_game 47 = .ok (.getfield 131, 3) := by decide +kernel
theorem dX12_game_50 : decode cX12_game 50 = .ok (.if_icmp .ge 40, 3) := by decide +kernel
theorem dX12_game_53 : decode cX12_game 53 = .ok (.aload_n 0, 1) := by decide +kernel
theorem dX12_game_54 : decode cX12_game 54 = .ok (.iload_n 3, 1) := by decide +kernel
theorem dX12_game_55 : decode cX12_game 55 = .ok (.invokevirtual 471, 3) := by decide +kernel
theorem dX12_game_58 : decode cX12_game 58 = .ok (.iload_n 2, 1) := by decide +kernel
theorem dX12_game_59 : decode cX12_game 59 = .ok (.ixor, 1) := by decide +kernel
theorem dX12_game_60 : decode cX12_game 60 = .ok (.aload_n 0, 1) := by decide +kernel
theorem dX12_game_61 : decode cX12_game 61 = .ok (.iload_n 3, 1) := by decide +kernel
theorem dX12_game_62 : decode cX12_game 62 = .ok (.invokevirtual 471, 3) := by decide +kernel
theorem dX12_game_65 : decode cX12_game 65 = .ok (.if_icmp .ge 19, 3) := by decide +kernel
theorem dX12_game_68 : decode cX12_game 68 = .ok (.iload_n 1, 1) := by decide +kernel
theorem dX12_game_69 : decode cX12_game 69 = .ok (.ifCond .ne 7, 3) := by decide +kernel
theorem dX12_game_72 : decode cX12_game 72 = .ok (.iload_n 3, 1) := by decide +kernel
theorem dX12_game_73 : decode cX12_game 73 = .ok (.goto 10, 3) := by decide +kernel
theorem dX12_game_76 : decode cX12_game 76 = .ok (.aload_n 0, 1) := by decide +kernel
theorem dX12_game_77 : decode cX12_game 77 = .ok (.iload_n 3, 1) := by decide +kernel
theorem dX12_game_78 : decode cX12_game 78 = .ok (.invokevirtual 471, 3) := by decide +kernel
theorem dX12_game_81 : decode cX12_game 81 = .ok (.iload_n 2, 1) := by decide +kernel
theorem dX12_game_82 : decode cX12_game 82 = .ok (.ixor, 1) := by decide +kernel
theorem dX12_game_83 : decode cX12_game 83 = .ok (.ireturn, 1) := by decide +kernel
theorem dX12_game_84 : decode cX12_game 84 = .ok (.iinc 3 1, 3) := by decide +kernel
theorem dX12_game_87 : decode cX12_game 87 = .ok (.goto (-42), 3) := by decide +kernel
theorem dX12_game_90 : decode cX12_game 90 = .ok (.iconst (-1), 1) := by decide +kernel
theorem dX12_game_91 : decode cX12_game 91 = .ok (.ireturn, 1) := by decide +kernel
theorem dX12_sumOf_0 : decode cX12_sumOf 0 = .ok (.iconst 0, 1) := by decide +kernel
theorem dX12_sumOf_1 : decode cX12_sumOf 1 = .ok (.istore_n 2, 1) := by decide +kernel
theorem dX12_sumOf_2 : decode cX12_sumOf 2 = .ok (.iconst 0, 1) := by decide +kernel
theorem dX12_sumOf_3 : decode cX12_sumOf 3 = .ok (.istore_n 3, 1) := by decide +kernel
theorem dX12_sumOf_4 : decode cX12_sumOf 4 = .ok (.iload_n 3, 1) := by decide +kernel
theorem dX12_sumOf_5 : decode cX12_sumOf 5 = .ok (.aload_n 0, 1) := by decide +kernel
theorem dX12_sumOf_6 : decode cX12_sumOf 6 = .ok (.getfield 131, 3) := by decide +kernel
theorem dX12_sumOf_9 : decode cX12_sumOf 9 = .ok (.if_icmp .ge 26, 3) := by decide +kernel
theorem dX12_sumOf_12 : decode cX12_sumOf 12 = .ok (.iload_n 1, 1) := by decide +kernel
theorem dX12_sumOf_13 : decode cX12_sumOf 13 = .ok (.iload_n 3, 1) := by decide +kernel
theorem dX12_sumOf_14 : decode cX12_sumOf 14 = .ok (.ishr, 1) := by decide +kernel
theorem dX12_sumOf_15 : decode cX12_sumOf 15 = .ok (.iconst 1, 1) := by decide +kernel
theorem dX12_sumOf_16 : decode cX12_sumOf 16 = .ok (.iand, 1) := by decide +kernel
theorem dX12_sumOf_17 : decode cX12_sumOf 17 = .ok (.iconst 1, 1) := by decide +kernel
theorem dX12_sumOf_18 : decode cX12_sumOf 18 = .ok (.if_icmp .ne 11, 3) := by decide +kernel
theorem dX12_sumOf_21 : decode cX12_sumOf 21 = .ok (.iload_n 2, 1) := by decide +kernel
theorem dX12_sumOf_22 : decode cX12_sumOf 22 = .ok (.aload_n 0, 1) := by decide +kernel
theorem dX12_sumOf_23 : decode cX12_sumOf 23 = .ok (.iload_n 3, 1) := by decide +kernel
theorem dX12_sumOf_24 : decode cX12_sumOf 24 = .ok (.invokevirtual 471, 3) := by decide +kernel
theorem dX12_sumOf_27 : decode cX12_sumOf 27 = .ok (.iadd, 1) := by decide +kernel
theorem dX12_sumOf_28 : decode cX12_sumOf 28 = .ok (.istore_n 2, 1) := by decide +kernel
theorem dX12_sumOf_29 : decode cX12_sumOf 29 = .ok (.iinc 3 1, 3) := by decide +kernel
theorem dX12_sumOf_32 : decode cX12_sumOf 32 = .ok (.goto (-28), 3) := by decide +kernel
theorem dX12_sumOf_35 : decode cX12_sumOf 35 = .ok (.iload_n 2, 1) := by decide +kernel
theorem dX12_sumOf_36 : decode cX12_sumOf 36 = .ok (.ireturn, 1) := by decide +kernel
theorem dX12_greenhouses_0 : decode cX12_greenhouses 0 = .ok (.aload_n 0, 1) := by decide +kernel
theorem dX12_greenhouses_1 : decode cX12_greenhouses 1 = .ok (.iconst 0, 1) := by decide +kernel
theorem dX12_greenhouses_2 : decode cX12_greenhouses 2 = .ok (.putfield 113, 3) := by decide +kernel
theorem dX12_greenhouses_5 : decode cX12_greenhouses 5 = .ok (.aload_n 0, 1) := by decide +kernel
theorem dX12_greenhouses_6 : decode cX12_greenhouses 6 = .ok (.iload_n 1, 1) := by decide +kernel
theorem dX12_greenhouses_7 : decode cX12_greenhouses 7 = .ok (.iconst 1, 1) := by decide +kernel
theorem dX12_greenhouses_8 : decode cX12_greenhouses 8 = .ok (.sipush 999, 3) := by decide +kernel
theorem dX12_greenhouses_11 : decode cX12_greenhouses 11 = .ok (.invokevirtual 142, 3) := by decide +kernel
theorem dX12_greenhouses_14 : decode cX12_greenhouses 14 = .ok (.ifCond .ne 5, 3) := by decide +kernel
theorem dX12_greenhouses_17 : decode cX12_greenhouses 17 = .ok (.iconst (-1), 1) := by decide +kernel
theorem dX12_greenhouses_18 : decode cX12_greenhouses 18 = .ok (.ireturn, 1) := by decide +kernel
theorem dX12_greenhouses_19 : decode cX12_greenhouses 19 = .ok (.iconst 0, 1) := by decide +kernel
theorem dX12_greenhouses_20 : decode cX12_greenhouses 20 = .ok (.istore_n 2, 1) := by decide +kernel
theorem dX12_greenhouses_21 : decode cX12_greenhouses 21 = .ok (.iconst 0, 1) := by decide +kernel
theorem dX12_greenhouses_22 : decode cX12_greenhouses 22 = .ok (.istore_n 3, 1) := by decide +kernel
theorem dX12_greenhouses_23 : decode cX12_greenhouses 23 = .ok (.iload_n 3, 1) := by decide +kernel
theorem dX12_greenhouses_24 : decode cX12_greenhouses 24 = .ok (.aload_n 0, 1) := by decide +kernel
theorem dX12_greenhouses_25 : decode cX12_greenhouses 25 = .ok (.getfield 131, 3) := by decide +kernel
theorem dX12_greenhouses_28 : decode cX12_greenhouses 28 = .ok (.if_icmp .ge 24, 3) := by decide +kernel
theorem dX12_greenhouses_31 : decode cX12_greenhouses 31 = .ok (.aload_n 0, 1) := by decide +kernel
theorem dX12_greenhouses_32 : decode cX12_greenhouses 32 = .ok (.iload_n 3, 1) := by decide +kernel
theorem dX12_greenhouses_33 : decode cX12_greenhouses 33 = .ok (.invokevirtual 324, 3) := by decide +kernel
theorem dX12_greenhouses_36 : decode cX12_greenhouses 36 = .ok (.iconst (-1), 1) := by decide +kernel
theorem dX12_greenhouses_37 : decode cX12_greenhouses 37 = .ok (.if_icmp .eq 9, 3) := by decide +kernel
theorem dX12_greenhouses_40 : decode cX12_greenhouses 40 = .ok (.iload_n 2, 1) := by decide +kernel
theorem dX12_greenhouses_41 : decode cX12_greenhouses 41 = .ok (.iconst 1, 1) := by decide +kernel
theorem dX12_greenhouses_42 : decode cX12_greenhouses 42 = .ok (.iload_n 3, 1) := by decide +kernel
theorem dX12_greenhouses_43 : decode cX12_greenhouses 43 = .ok (.ishl, 1) := by decide +kernel
theorem dX12_greenhouses_44 : decode cX12_greenhouses 44 = .ok (.ior, 1) := by decide +kernel
theorem dX12_greenhouses_45 : decode cX12_greenhouses 45 = .ok (.istore_n 2, 1) := by decide +kernel
theorem dX12_greenhouses_46 : decode cX12_greenhouses 46 = .ok (.iinc 3 1, 3) := by decide +kernel
theorem dX12_greenhouses_49 : decode cX12_greenhouses 49 = .ok (.goto (-26), 3) := by decide +kernel
theorem dX12_greenhouses_52 : decode cX12_greenhouses 52 = .ok (.aload_n 0, 1) := by decide +kernel
theorem dX12_greenhouses_53 : decode cX12_greenhouses 53 = .ok (.getfield 107, 3) := by decide +kernel
theorem dX12_greenhouses_56 : decode cX12_greenhouses 56 = .ok (.iconst 0, 1) := by decide +kernel
theorem dX12_greenhouses_57 : decode cX12_greenhouses 57 = .ok (.iconst 0, 1) := by decide +kernel
theorem dX12_greenhouses_58 : decode cX12_greenhouses 58 = .ok (.iastore, 1) := by decide +kernel
theorem dX12_greenhouses_59 : decode cX12_greenhouses 59 = .ok (.iconst 1, 1) := by decide +kernel
theorem dX12_greenhouses_60 : decode cX12_greenhouses 60 = .ok (.istore_n 3, 1) := by decide +kernel
theorem dX12_greenhouses_61 : decode cX12_greenhouses 61 = .ok (.iload_n 3, 1) := by decide +kernel
theorem dX12_greenhouses_62 : decode cX12_greenhouses 62 = .ok (.iload_n 2, 1) := by decide +kernel
theorem dX12_greenhouses_63 : decode cX12_greenhouses 63 = .ok (.if_icmp .gt 88, 3) := by decide +kernel
theorem dX12_greenhouses_66 : decode cX12_greenhouses 66 = .ok (.aload_n 0, 1) := by decide +kernel
theorem dX12_greenhouses_67 : decode cX12_greenhouses 67 = .ok (.getfield 107, 3) := by decide +kernel
theorem dX12_greenhouses_70 : decode cX12_greenhouses 70 = .ok (.iload_n 3, 1) := by decide +kernel
theorem dX12_greenhouses_71 : decode cX12_greenhouses 71 = .ok (.ldc_w 449, 3) := by decide +kernel
theorem dX12_greenhouses_74 : decode cX12_greenhouses 74 = .ok (.iastore, 1) := by decide +kernel
theorem dX12_greenhouses_75 : decode cX12_greenhouses 75 = .ok (.iload_n 3, 1) := by decide +kernel
theorem dX12_greenhouses_76 : decode cX12_greenhouses 76 = .ok (.istore 4, 2) := by decide +kernel
theorem dX12_greenhouses_78 : decode cX12_greenhouses 78 = .ok (.iload 4, 2) := by decide +kernel
theorem dX12_greenhouses_80 : decode cX12_greenhouses 80 = .ok (.ifCond .le 65, 3) := by decide +kernel
theorem dX12_greenhouses_83 : decode cX12_greenhouses 83 = .ok (.aload_n 0, 1) := by decide +kernel
theorem dX12_greenhouses_84 : decode cX12_greenhouses 84 = .ok (.iload 4, 2) := by decide +kernel
theorem dX12_greenhouses_86 : decode cX12_greenhouses 86 = .ok (.invokevirtual 474, 3) := by decide +kernel
theorem dX12_greenhouses_89 : decode cX12_greenhouses 89 = .ok (.iload_n 1, 1) := by decide +kernel
theorem dX12_greenhouses_90 : decode cX12_greenhouses 90 = .ok (.if_icmp .gt 44, 3) := by decide +kernel
theorem dX12_greenhouses_93 : decode cX12_greenhouses 93 = .ok (.aload_n 0, 1) := by decide +kernel
theorem dX12_greenhouses_94 : decode cX12_greenhouses 94 = .ok (.getfield 107, 3) := by decide +kernel
theorem dX12_greenhouses_97 : decode cX12_greenhouses 97 = .ok (.iload_n 3, 1) := by decide +kernel
theorem dX12_greenhouses_98 : decode cX12_greenhouses 98 = .ok (.iload 4, 2) := by decide +kernel
theorem dX12_greenhouses_100 : decode cX12_greenhouses 100 = .ok (.iconst (-1), 1) := by decide +kernel
theorem dX12_greenhouses_101 : decode cX12_greenhouses 101 = .ok (.ixor, 1) := by decide +kernel
theorem dX12_greenhouses_102 : decode cX12_greenhouses 102 = .ok (.iand, 1) := by decide +kernel
theorem dX12_greenhouses_103 : decode cX12_greenhouses 103 = .ok (.iaload, 1) := by decide +kernel
theorem dX12_greenhouses_104 : decode cX12_greenhouses 104 = .ok (.iconst 1, 1) := by decide +kernel
theorem dX12_greenhouses_105 : decode cX12_greenhouses 105 = .ok (.iadd, 1) := by decide +kernel
theorem dX12_greenhouses_106 : decode cX12_greenhouses 106 = .ok (.aload_n 0, 1) := by decide +kernel
theorem dX12_greenhouses_107 : decode cX12_greenhouses 107 = .ok (.getfield 107, 3) := by decide +kernel
theorem dX12_greenhouses_110 : decode cX12_greenhouses 110 = .ok (.iload_n 3, 1) := by decide +kernel
theorem dX12_greenhouses_111 : decode cX12_greenhouses 111 = .ok (.iaload, 1) := by decide +kernel
theorem dX12_greenhouses_112 : decode cX12_greenhouses 112 = .ok (.if_icmp .ge 22, 3) := by decide +kernel
theorem dX12_greenhouses_115 : decode cX12_greenhouses 115 = .ok (.aload_n 0, 1) := by decide +kernel
theorem dX12_greenhouses_116 : decode cX12_greenhouses 116 = .ok (.getfield 107, 3) := by decide +kernel
theorem dX12_greenhouses_119 : decode cX12_greenhouses 119 = .ok (.iload_n 3, 1) := by decide +kernel
theorem dX12_greenhouses_120 : decode cX12_greenhouses 120 = .ok (.aload_n 0, 1) := by decide +kernel
theorem dX12_greenhouses_121 : decode cX12_greenhouses 121 = .ok (.getfield 107, 3) := by decide +kernel
theorem dX12_greenhouses_124 : decode cX12_greenhouses 124 = .ok (.iload_n 3, 1) := by decide +kernel
theorem dX12_greenhouses_125 : decode cX12_greenhouses 125 = .ok (.iload 4, 2) := by decide +kernel
theorem dX12_greenhouses_127 : decode cX12_greenhouses 127 = .ok (.iconst (-1), 1) := by decide +kernel
theorem dX12_greenhouses_128 : decode cX12_greenhouses 128 = .ok (.ixor, 1) := by decide +kernel
theorem dX12_greenhouses_129 : decode cX12_greenhouses 129 = .ok (.iand, 1) := by decide +kernel
theorem dX12_greenhouses_130 : decode cX12_greenhouses 130 = .ok (.iaload, 1) := by decide +kernel
theorem dX12_greenhouses_131 : decode cX12_greenhouses 131 = .ok (.iconst 1, 1) := by decide +kernel
theorem dX12_greenhouses_132 : decode cX12_greenhouses 132 = .ok (.iadd, 1) := by decide +kernel
theorem dX12_greenhouses_133 : decode cX12_greenhouses 133 = .ok (.iastore, 1) := by decide +kernel
theorem dX12_greenhouses_134 : decode cX12_greenhouses 134 = .ok (.iload 4, 2) := by decide +kernel
theorem dX12_greenhouses_136 : decode cX12_greenhouses 136 = .ok (.iconst 1, 1) := by decide +kernel
theorem dX12_greenhouses_137 : decode cX12_greenhouses 137 = .ok (.isub, 1) := by decide +kernel
theorem dX12_greenhouses_138 : decode cX12_greenhouses 138 = .ok (.iload_n 3, 1) := by decide +kernel
theorem dX12_greenhouses_139 : decode cX12_greenhouses 139 = .ok (.iand, 1) := by decide +kernel
theorem dX12_greenhouses_140 : decode cX12_greenhouses 140 = .ok (.istore 4, 2) := by decide +kernel
theorem dX12_greenhouses_142 : decode cX12_greenhouses 142 = .ok (.goto (-64), 3) := by decide +kernel
theorem dX12_greenhouses_145 : decode cX12_greenhouses 145 = .ok (.iinc 3 1, 3) := by decide +kernel
theorem dX12_greenhouses_148 : decode cX12_greenhouses 148 = .ok (.goto (-87), 3) := by decide +kernel
theorem dX12_greenhouses_151 : decode cX12_greenhouses 151 = .ok (.aload_n 0, 1) := by decide +kernel
theorem dX12_greenhouses_152 : decode cX12_greenhouses 152 = .ok (.getfield 107, 3) := by decide +kernel
theorem dX12_greenhouses_155 : decode cX12_greenhouses 155 = .ok (.iload_n 2, 1) := by decide +kernel
theorem dX12_greenhouses_156 : decode cX12_greenhouses 156 = .ok (.iaload, 1) := by decide +kernel
theorem dX12_greenhouses_157 : decode cX12_greenhouses 157 = .ok (.ldc_w 449, 3) := by decide +kernel
theorem dX12_greenhouses_160 : decode cX12_greenhouses 160 = .ok (.if_icmp .lt 7, 3) := by decide +kernel
theorem dX12_greenhouses_163 : decode cX12_greenhouses 163 = .ok (.iconst (-1), 1) := by decide +kernel
theorem dX12_greenhouses_164 : decode cX12_greenhouses 164 = .ok (.goto 9, 3) := by decide +kernel
theorem dX12_greenhouses_167 : decode cX12_greenhouses 167 = .ok (.aload_n 0, 1) := by decide +kernel
theorem dX12_greenhouses_168 : decode cX12_greenhouses 168 = .ok (.getfield 107, 3) := by decide +kernel
theorem dX12_greenhouses_171 : decode cX12_greenhouses 171 = .ok (.iload_n 2, 1) := by decide +kernel
theorem dX12_greenhouses_172 : decode cX12_greenhouses 172 = .ok (.iaload, 1) := by decide +kernel
theorem dX12_greenhouses_173 : decode cX12_greenhouses 173 = .ok (.ireturn, 1) := by decide +kernel
theorem dX12_keeps_0 : decode cX12_keeps 0 = .ok (.aload_n 0, 1) := by decide +kernel
theorem dX12_keeps_1 : decode cX12_keeps 1 = .ok (.aload_n 0, 1) := by decide +kernel
theorem dX12_keeps_2 : decode cX12_keeps 2 = .ok (.getfield 477, 3) := by decide +kernel
theorem dX12_keeps_5 : decode cX12_keeps 5 = .ok (.iconst 1, 1) := by decide +kernel
theorem dX12_keeps_6 : decode cX12_keeps 6 = .ok (.iadd, 1) := by decide +kernel
theorem dX12_keeps_7 : decode cX12_keeps 7 = .ok (.putfield 477, 3) := by decide +kernel
theorem dX12_keeps_10 : decode cX12_keeps 10 = .ok (.aload_n 0, 1) := by decide +kernel
theorem dX12_keeps_11 : decode cX12_keeps 11 = .ok (.getfield 480, 3) := by decide +kernel
theorem dX12_keeps_14 : decode cX12_keeps 14 = .ok (.ifCond .ne 15, 3) := by decide +kernel
theorem dX12_keeps_17 : decode cX12_keeps 17 = .ok (.aload_n 0, 1) := by decide +kernel
theorem dX12_keeps_18 : decode cX12_keeps 18 = .ok (.getfield 110, 3) := by decide +kernel
theorem dX12_keeps_21 : decode cX12_keeps 21 = .ok (.aload_n 0, 1) := by decide +kernel
theorem dX12_keeps_22 : decode cX12_keeps 22 = .ok (.getfield 477, 3) := by decide +kernel
theorem dX12_keeps_25 : decode cX12_keeps 25 = .ok (.iconst 1, 1) := by decide +kernel
theorem dX12_keeps_26 : decode cX12_keeps 26 = .ok (.isub, 1) := by decide +kernel
theorem dX12_keeps_27 : decode cX12_keeps 27 = .ok (.iaload, 1) := by decide +kernel
theorem dX12_keeps_28 : decode cX12_keeps 28 = .ok (.ireturn, 1) := by decide +kernel
theorem dX12_keeps_29 : decode cX12_keeps 29 = .ok (.aload_n 0, 1) := by decide +kernel
theorem dX12_keeps_30 : decode cX12_keeps 30 = .ok (.getfield 110, 3) := by decide +kernel
theorem dX12_keeps_33 : decode cX12_keeps 33 = .ok (.aload_n 0, 1) := by decide +kernel
theorem dX12_keeps_34 : decode cX12_keeps 34 = .ok (.getfield 477, 3) := by decide +kernel
theorem dX12_keeps_37 : decode cX12_keeps 37 = .ok (.iconst 1, 1) := by decide +kernel
theorem dX12_keeps_38 : decode cX12_keeps 38 = .ok (.isub, 1) := by decide +kernel
theorem dX12_keeps_39 : decode cX12_keeps 39 = .ok (.iload_n 1, 1) := by decide +kernel
theorem dX12_keeps_40 : decode cX12_keeps 40 = .ok (.iastore, 1) := by decide +kernel
theorem dX12_keeps_41 : decode cX12_keeps 41 = .ok (.iload_n 1, 1) := by decide +kernel
theorem dX12_keeps_42 : decode cX12_keeps 42 = .ok (.ireturn, 1) := by decide +kernel
theorem dX12_keepsLaw_0 : decode cX12_keepsLaw 0 = .ok (.aload_n 0, 1) := by decide +kernel
theorem dX12_keepsLaw_1 : decode cX12_keepsLaw 1 = .ok (.getfield 34, 3) := by decide +kernel
theorem dX12_keepsLaw_4 : decode cX12_keepsLaw 4 = .ok (.iconst 1, 1) := by decide +kernel
theorem dX12_keepsLaw_5 : decode cX12_keepsLaw 5 = .ok (.aload_n 0, 1) := by decide +kernel
theorem dX12_keepsLaw_6 : decode cX12_keepsLaw 6 = .ok (.aload_n 0, 1) := by decide +kernel
theorem dX12_keepsLaw_7 : decode cX12_keepsLaw 7 = .ok (.getfield 34, 3) := by decide +kernel
theorem dX12_keepsLaw_10 : decode cX12_keepsLaw 10 = .ok (.iconst 1, 1) := by decide +kernel
theorem dX12_keepsLaw_11 : decode cX12_keepsLaw 11 = .ok (.iaload, 1) := by decide +kernel
theorem dX12_keepsLaw_12 : decode cX12_keepsLaw 12 = .ok (.invokevirtual 483, 3) := by decide +kernel
theorem dX12_keepsLaw_15 : decode cX12_keepsLaw 15 = .ok (.iastore, 1) := by decide +kernel
theorem dX12_keepsLaw_16 : decode cX12_keepsLaw 16 = .ok (.bipush 16, 2) := by decide +kernel
theorem dX12_keepsLaw_18 : decode cX12_keepsLaw 18 = .ok (.istore_n 1, 1) := by decide +kernel
theorem dX12_keepsLaw_19 : decode cX12_keepsLaw 19 = .ok (.iload_n 1, 1) := by decide +kernel
theorem dX12_keepsLaw_20 : decode cX12_keepsLaw 20 = .ok (.bipush 32, 2) := by decide +kernel
theorem dX12_keepsLaw_22 : decode cX12_keepsLaw 22 = .ok (.if_icmp .ge 73, 3) := by decide +kernel
theorem dX12_keepsLaw_25 : decode cX12_keepsLaw 25 = .ok (.aload_n 0, 1) := by decide +kernel
theorem dX12_keepsLaw_26 : decode cX12_keepsLaw 26 = .ok (.getfield 37, 3) := by decide +kernel
theorem dX12_keepsLaw_29 : decode cX12_keepsLaw 29 = .ok (.iload_n 1, 1) := by decide +kernel
theorem dX12_keepsLaw_30 : decode cX12_keepsLaw 30 = .ok (.aload_n 0, 1) := by decide +kernel
theorem dX12_keepsLaw_31 : decode cX12_keepsLaw 31 = .ok (.aload_n 0, 1) := by decide +kernel
theorem dX12_keepsLaw_32 : decode cX12_keepsLaw 32 = .ok (.getfield 37, 3) := by decide +kernel
theorem dX12_keepsLaw_35 : decode cX12_keepsLaw 35 = .ok (.iload_n 1, 1) := by decide +kernel
theorem dX12_keepsLaw_36 : decode cX12_keepsLaw 36 = .ok (.iaload, 1) := by decide +kernel
theorem dX12_keepsLaw_37 : decode cX12_keepsLaw 37 = .ok (.invokevirtual 483, 3) := by decide +kernel
theorem dX12_keepsLaw_40 : decode cX12_keepsLaw 40 = .ok (.iastore, 1) := by decide +kernel
theorem dX12_keepsLaw_41 : decode cX12_keepsLaw 41 = .ok (.aload_n 0, 1) := by decide +kernel
theorem dX12_keepsLaw_42 : decode cX12_keepsLaw 42 = .ok (.getfield 40, 3) := by decide +kernel
theorem dX12_keepsLaw_45 : decode cX12_keepsLaw 45 = .ok (.iload_n 1, 1) := by decide +kernel
theorem dX12_keepsLaw_46 : decode cX12_keepsLaw 46 = .ok (.aload_n 0, 1) := by decide +kernel
theorem dX12_keepsLaw_47 : decode cX12_keepsLaw 47 = .ok (.aload_n 0, 1) := by decide +kernel
theorem dX12_keepsLaw_48 : decode cX12_keepsLaw 48 = .ok (.getfield 40, 3) := by decide +kernel
theorem dX12_keepsLaw_51 : decode cX12_keepsLaw 51 = .ok (.iload_n 1, 1) := by decide +kernel
theorem dX12_keepsLaw_52 : decode cX12_keepsLaw 52 = .ok (.iaload, 1) := by decide +kernel
theorem dX12_keepsLaw_53 : decode cX12_keepsLaw 53 = .ok (.invokevirtual 483, 3) := by decide +kernel
theorem dX12_keepsLaw_56 : decode cX12_keepsLaw 56 = .ok (.iastore, 1) := by decide +kernel
theorem dX12_keepsLaw_57 : decode cX12_keepsLaw 57 = .ok (.aload_n 0, 1) := by decide +kernel
theorem dX12_keepsLaw_58 : decode cX12_keepsLaw 58 = .ok (.getfield 43, 3) := by decide +kernel
theorem dX12_keepsLaw_61 : decode cX12_keepsLaw 61 = .ok (.iload_n 1, 1) := by decide +kernel
theorem dX12_keepsLaw_62 : decode cX12_keepsLaw 62 = .ok (.aload_n 0, 1) := by decide +kernel
theorem dX12_keepsLaw_63 : decode cX12_keepsLaw 63 = .ok (.aload_n 0, 1) := by decide +kernel
theorem dX12_keepsLaw_64 : decode cX12_keepsLaw 64 = .ok (.getfield 43, 3) := by decide +kernel
theorem dX12_keepsLaw_67 : decode cX12_keepsLaw 67 = .ok (.iload_n 1, 1) := by decide +kernel
theorem dX12_keepsLaw_68 : decode cX12_keepsLaw 68 = .ok (.iaload, 1) := by decide +kernel
theorem dX12_keepsLaw_69 : decode cX12_keepsLaw 69 = .ok (.invokevirtual 483, 3) := by decide +kernel
theorem dX12_keepsLaw_72 : decode cX12_keepsLaw 72 = .ok (.iastore, 1) := by decide +kernel
theorem dX12_keepsLaw_73 : decode cX12_keepsLaw 73 = .ok (.aload_n 0, 1) := by decide +kernel
theorem dX12_keepsLaw_74 : decode cX12_keepsLaw 74 = .ok (.getfield 46, 3) := by decide +kernel
theorem dX12_keepsLaw_77 : decode cX12_keepsLaw 77 = .ok (.iload_n 1, 1) := by decide +kernel
theorem dX12_keepsLaw_78 : decode cX12_keepsLaw 78 = .ok (.aload_n 0, 1) := by decide +kernel
theorem dX12_keepsLaw_79 : decode cX12_keepsLaw 79 = .ok (.aload_n 0, 1) := by decide +kernel
theorem dX12_keepsLaw_80 : decode cX12_keepsLaw 80 = .ok (.getfield 46, 3) := by decide +kernel
theorem dX12_keepsLaw_83 : decode cX12_keepsLaw 83 = .ok (.iload_n 1, 1) := by decide +kernel
theorem dX12_keepsLaw_84 : decode cX12_keepsLaw 84 = .ok (.iaload, 1) := by decide +kernel
theorem dX12_keepsLaw_85 : decode cX12_keepsLaw 85 = .ok (.invokevirtual 483, 3) := by decide +kernel
theorem dX12_keepsLaw_88 : decode cX12_keepsLaw 88 = .ok (.iastore, 1) := by decide +kernel
theorem dX12_keepsLaw_89 : decode cX12_keepsLaw 89 = .ok (.iinc 1 1, 3) := by decide +kernel
theorem dX12_keepsLaw_92 : decode cX12_keepsLaw 92 = .ok (.goto (-73), 3) := by decide +kernel
theorem dX12_keepsLaw_95 : decode cX12_keepsLaw 95 = .ok (.sipush 400, 3) := by decide +kernel
theorem dX12_keepsLaw_98 : decode cX12_keepsLaw 98 = .ok (.istore_n 1, 1) := by decide +kernel
theorem dX12_keepsLaw_99 : decode cX12_keepsLaw 99 = .ok (.iload_n 1, 1) := by decide +kernel
theorem dX12_keepsLaw_100 : decode cX12_keepsLaw 100 = .ok (.sipush 800, 3) := by decide +kernel
theorem dX12_keepsLaw_103 : decode cX12_keepsLaw 103 = .ok (.if_icmp .ge 41, 3) := by decide +kernel
theorem dX12_keepsLaw_106 : decode cX12_keepsLaw 106 = .ok (.aload_n 0, 1) := by decide +kernel
theorem dX12_keepsLaw_107 : decode cX12_keepsLaw 107 = .ok (.getfield 49, 3) := by decide +kernel
theorem dX12_keepsLaw_110 : decode cX12_keepsLaw 110 = .ok (.iload_n 1, 1) := by decide +kernel
theorem dX12_keepsLaw_111 : decode cX12_keepsLaw 111 = .ok (.aload_n 0, 1) := by decide +kernel
theorem dX12_keepsLaw_112 : decode cX12_keepsLaw 112 = .ok (.aload_n 0, 1) := by decide +kernel
theorem dX12_keepsLaw_113 : decode cX12_keepsLaw 113 = .ok (.getfield 49, 3) := by decide +kernel
theorem dX12_keepsLaw_116 : decode cX12_keepsLaw 116 = .ok (.iload_n 1, 1) := by decide +kernel
theorem dX12_keepsLaw_117 : decode cX12_keepsLaw 117 = .ok (.iaload, 1) := by decide +kernel
theorem dX12_keepsLaw_118 : decode cX12_keepsLaw 118 = .ok (.invokevirtual 483, 3) := by decide +kernel
theorem dX12_keepsLaw_121 : decode cX12_keepsLaw 121 = .ok (.iastore, 1) := by decide +kernel
theorem dX12_keepsLaw_122 : decode cX12_keepsLaw 122 = .ok (.aload_n 0, 1) := by decide +kernel
theorem dX12_keepsLaw_123 : decode cX12_keepsLaw 123 = .ok (.getfield 52, 3) := by decide +kernel
theorem dX12_keepsLaw_126 : decode cX12_keepsLaw 126 = .ok (.iload_n 1, 1) := by decide +kernel
theorem dX12_keepsLaw_127 : decode cX12_keepsLaw 127 = .ok (.aload_n 0, 1) := by decide +kernel
theorem dX12_keepsLaw_128 : decode cX12_keepsLaw 128 = .ok (.aload_n 0, 1) := by decide +kernel
theorem dX12_keepsLaw_129 : decode cX12_keepsLaw 129 = .ok (.getfield 52, 3) := by decide +kernel
theorem dX12_keepsLaw_132 : decode cX12_keepsLaw 132 = .ok (.iload_n 1, 1) := by decide +kernel
theorem dX12_keepsLaw_133 : decode cX12_keepsLaw 133 = .ok (.iaload, 1) := by decide +kernel
theorem dX12_keepsLaw_134 : decode cX12_keepsLaw 134 = .ok (.invokevirtual 483, 3) := by decide +kernel
theorem dX12_keepsLaw_137 : decode cX12_keepsLaw 137 = .ok (.iastore, 1) := by decide +kernel
theorem dX12_keepsLaw_138 : decode cX12_keepsLaw 138 = .ok (.iinc 1 1, 3) := by decide +kernel
theorem dX12_keepsLaw_141 : decode cX12_keepsLaw 141 = .ok (.goto (-42), 3) := by decide +kernel
theorem dX12_keepsLaw_144 : decode cX12_keepsLaw 144 = .ok (.return_, 1) := by decide +kernel
theorem dX12_keepsTold_0 : decode cX12_keepsTold 0 = .ok (.aload_n 0, 1) := by decide +kernel
theorem dX12_keepsTold_1 : decode cX12_keepsTold 1 = .ok (.aload_n 0, 1) := by decide +kernel
theorem dX12_keepsTold_2 : decode cX12_keepsTold 2 = .ok (.aload_n 0, 1) := by decide +kernel
theorem dX12_keepsTold_3 : decode cX12_keepsTold 3 = .ok (.getfield 131, 3) := by decide +kernel
theorem dX12_keepsTold_6 : decode cX12_keepsTold 6 = .ok (.invokevirtual 483, 3) := by decide +kernel
theorem dX12_keepsTold_9 : decode cX12_keepsTold 9 = .ok (.putfield 131, 3) := by decide +kernel
theorem dX12_keepsTold_12 : decode cX12_keepsTold 12 = .ok (.aload_n 0, 1) := by decide +kernel
theorem dX12_keepsTold_13 : decode cX12_keepsTold 13 = .ok (.aload_n 0, 1) := by decide +kernel
theorem dX12_keepsTold_14 : decode cX12_keepsTold 14 = .ok (.aload_n 0, 1) := by decide +kernel
theorem dX12_keepsTold_15 : decode cX12_keepsTold 15 = .ok (.getfield 128, 3) := by decide +kernel
theorem dX12_keepsTold_18 : decode cX12_keepsTold 18 = .ok (.invokevirtual 483, 3) := by decide +kernel
theorem dX12_keepsTold_21 : decode cX12_keepsTold 21 = .ok (.putfield 128, 3) := by decide +kernel
theorem dX12_keepsTold_24 : decode cX12_keepsTold 24 = .ok (.aload_n 0, 1) := by decide +kernel
theorem dX12_keepsTold_25 : decode cX12_keepsTold 25 = .ok (.aload_n 0, 1) := by decide +kernel
theorem dX12_keepsTold_26 : decode cX12_keepsTold 26 = .ok (.aload_n 0, 1) := by decide +kernel
theorem dX12_keepsTold_27 : decode cX12_keepsTold 27 = .ok (.getfield 150, 3) := by decide +kernel
theorem dX12_keepsTold_30 : decode cX12_keepsTold 30 = .ok (.invokevirtual 483, 3) := by decide +kernel
theorem dX12_keepsTold_33 : decode cX12_keepsTold 33 = .ok (.putfield 150, 3) := by decide +kernel
theorem dX12_keepsTold_36 : decode cX12_keepsTold 36 = .ok (.aload_n 0, 1) := by decide +kernel
theorem dX12_keepsTold_37 : decode cX12_keepsTold 37 = .ok (.aload_n 0, 1) := by decide +kernel
theorem dX12_keepsTold_38 : decode cX12_keepsTold 38 = .ok (.aload_n 0, 1) := by decide +kernel
theorem dX12_keepsTold_39 : decode cX12_keepsTold 39 = .ok (.getfield 153, 3) := by decide +kernel
theorem dX12_keepsTold_42 : decode cX12_keepsTold 42 = .ok (.invokevirtual 483, 3) := by decide +kernel
theorem dX12_keepsTold_45 : decode cX12_keepsTold 45 = .ok (.putfield 153, 3) := by decide +kernel
theorem dX12_keepsTold_48 : decode cX12_keepsTold 48 = .ok (.aload_n 0, 1) := by decide +kernel
theorem dX12_keepsTold_49 : decode cX12_keepsTold 49 = .ok (.aload_n 0, 1) := by decide +kernel
theorem dX12_keepsTold_50 : decode cX12_keepsTold 50 = .ok (.aload_n 0, 1) := by decide +kernel
theorem dX12_keepsTold_51 : decode cX12_keepsTold 51 = .ok (.getfield 297, 3) := by decide +kernel
theorem dX12_keepsTold_54 : decode cX12_keepsTold 54 = .ok (.invokevirtual 483, 3) := by decide +kernel
theorem dX12_keepsTold_57 : decode cX12_keepsTold 57 = .ok (.putfield 297, 3) := by decide +kernel
theorem dX12_keepsTold_60 : decode cX12_keepsTold 60 = .ok (.aload_n 0, 1) := by decide +kernel
theorem dX12_keepsTold_61 : decode cX12_keepsTold 61 = .ok (.aload_n 0, 1) := by decide +kernel
theorem dX12_keepsTold_62 : decode cX12_keepsTold 62 = .ok (.aload_n 0, 1) := by decide +kernel
theorem dX12_keepsTold_63 : decode cX12_keepsTold 63 = .ok (.getfield 303, 3) := by decide +kernel
theorem dX12_keepsTold_66 : decode cX12_keepsTold 66 = .ok (.invokevirtual 483, 3) := by decide +kernel
theorem dX12_keepsTold_69 : decode cX12_keepsTold 69 = .ok (.putfield 303, 3) := by decide +kernel
theorem dX12_keepsTold_72 : decode cX12_keepsTold 72 = .ok (.aload_n 0, 1) := by decide +kernel
theorem dX12_keepsTold_73 : decode cX12_keepsTold 73 = .ok (.aload_n 0, 1) := by decide +kernel
theorem dX12_keepsTold_74 : decode cX12_keepsTold 74 = .ok (.aload_n 0, 1) := by decide +kernel
theorem dX12_keepsTold_75 : decode cX12_keepsTold 75 = .ok (.getfield 300, 3) := by decide +kernel
theorem dX12_keepsTold_78 : decode cX12_keepsTold 78 = .ok (.invokevirtual 483, 3) := by decide +kernel
theorem dX12_keepsTold_81 : decode cX12_keepsTold 81 = .ok (.putfield 300, 3) := by decide +kernel
theorem dX12_keepsTold_84 : decode cX12_keepsTold 84 = .ok (.aload_n 0, 1) := by decide +kernel
theorem dX12_keepsTold_85 : decode cX12_keepsTold 85 = .ok (.aload_n 0, 1) := by decide +kernel
theorem dX12_keepsTold_86 : decode cX12_keepsTold 86 = .ok (.aload_n 0, 1) := by decide +kernel
theorem dX12_keepsTold_87 : decode cX12_keepsTold 87 = .ok (.getfield 459, 3) := by decide +kernel
theorem dX12_keepsTold_90 : decode cX12_keepsTold 90 = .ok (.invokevirtual 483, 3) := by decide +kernel
theorem dX12_keepsTold_93 : decode cX12_keepsTold 93 = .ok (.putfield 459, 3) := by decide +kernel
theorem dX12_keepsTold_96 : decode cX12_keepsTold 96 = .ok (.iconst 0, 1) := by decide +kernel
theorem dX12_keepsTold_97 : decode cX12_keepsTold 97 = .ok (.istore_n 1, 1) := by decide +kernel
theorem dX12_keepsTold_98 : decode cX12_keepsTold 98 = .ok (.iload_n 1, 1) := by decide +kernel
theorem dX12_keepsTold_99 : decode cX12_keepsTold 99 = .ok (.bipush 8, 2) := by decide +kernel
theorem dX12_keepsTold_101 : decode cX12_keepsTold 101 = .ok (.if_icmp .ge 41, 3) := by decide +kernel
theorem dX12_keepsTold_104 : decode cX12_keepsTold 104 = .ok (.aload_n 0, 1) := by decide +kernel
theorem dX12_keepsTold_105 : decode cX12_keepsTold 105 = .ok (.getfield 19, 3) := by decide +kernel
theorem dX12_keepsTold_108 : decode cX12_keepsTold 108 = .ok (.iload_n 1, 1) := by decide +kernel
theorem dX12_keepsTold_109 : decode cX12_keepsTold 109 = .ok (.aload_n 0, 1) := by decide +kernel
theorem dX12_keepsTold_110 : decode cX12_keepsTold 110 = .ok (.aload_n 0, 1) := by decide +kernel
theorem dX12_keepsTold_111 : decode cX12_keepsTold 111 = .ok (.getfield 19, 3) := by decide +kernel
theorem dX12_keepsTold_114 : decode cX12_keepsTold 114 = .ok (.iload_n 1, 1) := by decide +kernel
theorem dX12_keepsTold_115 : decode cX12_keepsTold 115 = .ok (.iaload, 1) := by decide +kernel
theorem dX12_keepsTold_116 : decode cX12_keepsTold 116 = .ok (.invokevirtual 483, 3) := by decide +kernel
theorem dX12_keepsTold_119 : decode cX12_keepsTold 119 = .ok (.iastore, 1) := by decide +kernel
theorem dX12_keepsTold_120 : decode cX12_keepsTold 120 = .ok (.aload_n 0, 1) := by decide +kernel
theorem dX12_keepsTold_121 : decode cX12_keepsTold 121 = .ok (.getfield 22, 3) := by decide +kernel
theorem dX12_keepsTold_124 : decode cX12_keepsTold 124 = .ok (.iload_n 1, 1) := by decide +kernel
theorem dX12_keepsTold_125 : decode cX12_keepsTold 125 = .ok (.aload_n 0, 1) := by decide +kernel
theorem dX12_keepsTold_126 : decode cX12_keepsTold 126 = .ok (.aload_n 0, 1) := by decide +kernel
theorem dX12_keepsTold_127 : decode cX12_keepsTold 127 = .ok (.getfield 22, 3) := by decide +kernel
theorem dX12_keepsTold_130 : decode cX12_keepsTold 130 = .ok (.iload_n 1, 1) := by decide +kernel
theorem dX12_keepsTold_131 : decode cX12_keepsTold 131 = .ok (.iaload, 1) := by decide +kernel
theorem dX12_keepsTold_132 : decode cX12_keepsTold 132 = .ok (.invokevirtual 483, 3) := by decide +kernel
theorem dX12_keepsTold_135 : decode cX12_keepsTold 135 = .ok (.iastore, 1) := by decide +kernel
theorem dX12_keepsTold_136 : decode cX12_keepsTold 136 = .ok (.iinc 1 1, 3) := by decide +kernel
theorem dX12_keepsTold_139 : decode cX12_keepsTold 139 = .ok (.goto (-41), 3) := by decide +kernel
theorem dX12_keepsTold_142 : decode cX12_keepsTold 142 = .ok (.iconst 0, 1) := by decide +kernel
theorem dX12_keepsTold_143 : decode cX12_keepsTold 143 = .ok (.istore_n 1, 1) := by decide +kernel
theorem dX12_keepsTold_144 : decode cX12_keepsTold 144 = .ok (.iload_n 1, 1) := by decide +kernel
theorem dX12_keepsTold_145 : decode cX12_keepsTold 145 = .ok (.bipush 12, 2) := by decide +kernel
theorem dX12_keepsTold_147 : decode cX12_keepsTold 147 = .ok (.if_icmp .ge 57, 3) := by decide +kernel
theorem dX12_keepsTold_150 : decode cX12_keepsTold 150 = .ok (.aload_n 0, 1) := by decide +kernel
theorem dX12_keepsTold_151 : decode cX12_keepsTold 151 = .ok (.getfield 98, 3) := by decide +kernel
theorem dX12_keepsTold_154 : decode cX12_keepsTold 154 = .ok (.iload_n 1, 1) := by decide +kernel
theorem dX12_keepsTold_155 : decode cX12_keepsTold 155 = .ok (.aload_n 0, 1) := by decide +kernel
theorem dX12_keepsTold_156 : decode cX12_keepsTold 156 = .ok (.aload_n 0, 1) := by decide +kernel
theorem dX12_keepsTold_157 : decode cX12_keepsTold 157 = .ok (.getfield 98, 3) := by decide +kernel
theorem dX12_keepsTold_160 : decode cX12_keepsTold 160 = .ok (.iload_n 1, 1) := by decide +kernel
theorem dX12_keepsTold_161 : decode cX12_keepsTold 161 = .ok (.iaload, 1) := by decide +kernel
theorem dX12_keepsTold_162 : decode cX12_keepsTold 162 = .ok (.invokevirtual 483, 3) := by decide +kernel
theorem dX12_keepsTold_165 : decode cX12_keepsTold 165 = .ok (.iastore, 1) := by decide +kernel
theorem dX12_keepsTold_166 : decode cX12_keepsTold 166 = .ok (.aload_n 0, 1) := by decide +kernel
theorem dX12_keepsTold_167 : decode cX12_keepsTold 167 = .ok (.getfield 101, 3) := by decide +kernel
theorem dX12_keepsTold_170 : decode cX12_keepsTold 170 = .ok (.iload_n 1, 1) := by decide +kernel
theorem dX12_keepsTold_171 : decode cX12_keepsTold 171 = .ok (.aload_n 0, 1) := by decide +kernel
theorem dX12_keepsTold_172 : decode cX12_keepsTold 172 = .ok (.aload_n 0, 1) := by decide +kernel
theorem dX12_keepsTold_173 : decode cX12_keepsTold 173 = .ok (.getfield 101, 3) := by decide +kernel
theorem dX12_keepsTold_176 : decode cX12_keepsTold 176 = .ok (.iload_n 1, 1) := by decide +kernel
theorem dX12_keepsTold_177 : decode cX12_keepsTold 177 = .ok (.iaload, 1) := by decide +kernel
theorem dX12_keepsTold_178 : decode cX12_keepsTold 178 = .ok (.invokevirtual 483, 3) := by decide +kernel
theorem dX12_keepsTold_181 : decode cX12_keepsTold 181 = .ok (.iastore, 1) := by decide +kernel
theorem dX12_keepsTold_182 : decode cX12_keepsTold 182 = .ok (.aload_n 0, 1) := by decide +kernel
theorem dX12_keepsTold_183 : decode cX12_keepsTold 183 = .ok (.getfield 104, 3) := by decide +kernel
theorem dX12_keepsTold_186 : decode cX12_keepsTold 186 = .ok (.iload_n 1, 1) := by decide +kernel
theorem dX12_keepsTold_187 : decode cX12_keepsTold 187 = .ok (.aload_n 0, 1) := by decide +kernel
theorem dX12_keepsTold_188 : decode cX12_keepsTold 188 = .ok (.aload_n 0, 1) := by decide +kernel
theorem dX12_keepsTold_189 : decode cX12_keepsTold 189 = .ok (.getfield 104, 3) := by decide +kernel
theorem dX12_keepsTold_192 : decode cX12_keepsTold 192 = .ok (.iload_n 1, 1) := by decide +kernel
theorem dX12_keepsTold_193 : decode cX12_keepsTold 193 = .ok (.iaload, 1) := by decide +kernel
theorem dX12_keepsTold_194 : decode cX12_keepsTold 194 = .ok (.invokevirtual 483, 3) := by decide +kernel
theorem dX12_keepsTold_197 : decode cX12_keepsTold 197 = .ok (.iastore, 1) := by decide +kernel
theorem dX12_keepsTold_198 : decode cX12_keepsTold 198 = .ok (.iinc 1 1, 3) := by decide +kernel
theorem dX12_keepsTold_201 : decode cX12_keepsTold 201 = .ok (.goto (-57), 3) := by decide +kernel
theorem dX12_keepsTold_204 : decode cX12_keepsTold 204 = .ok (.iconst 0, 1) := by decide +kernel
theorem dX12_keepsTold_205 : decode cX12_keepsTold 205 = .ok (.istore_n 1, 1) := by decide +kernel
theorem dX12_keepsTold_206 : decode cX12_keepsTold 206 = .ok (.iload_n 1, 1) := by decide +kernel
theorem dX12_keepsTold_207 : decode cX12_keepsTold 207 = .ok (.bipush 48, 2) := by decide +kernel
theorem dX12_keepsTold_209 : decode cX12_keepsTold 209 = .ok (.if_icmp .ge 25, 3) := by decide +kernel
theorem dX12_keepsTold_212 : decode cX12_keepsTold 212 = .ok (.aload_n 0, 1) := by decide +kernel
theorem dX12_keepsTold_213 : decode cX12_keepsTold 213 = .ok (.getfield 62, 3) := by decide +kernel
theorem dX12_keepsTold_216 : decode cX12_keepsTold 216 = .ok (.iload_n 1, 1) := by decide +kernel
theorem dX12_keepsTold_217 : decode cX12_keepsTold 217 = .ok (.aload_n 0, 1) := by decide +kernel
theorem dX12_keepsTold_218 : decode cX12_keepsTold 218 = .ok (.aload_n 0, 1) := by decide +kernel
theorem dX12_keepsTold_219 : decode cX12_keepsTold 219 = .ok (.getfield 62, 3) := by decide +kernel
theorem dX12_keepsTold_222 : decode cX12_keepsTold 222 = .ok (.iload_n 1, 1) := by decide +kernel
theorem dX12_keepsTold_223 : decode cX12_keepsTold 223 = .ok (.iaload, 1) := by decide +kernel
theorem dX12_keepsTold_224 : decode cX12_keepsTold 224 = .ok (.invokevirtual 483, 3) := by decide +kernel
theorem dX12_keepsTold_227 : decode cX12_keepsTold 227 = .ok (.iastore, 1) := by decide +kernel
theorem dX12_keepsTold_228 : decode cX12_keepsTold 228 = .ok (.iinc 1 1, 3) := by decide +kernel
theorem dX12_keepsTold_231 : decode cX12_keepsTold 231 = .ok (.goto (-25), 3) := by decide +kernel
theorem dX12_keepsTold_234 : decode cX12_keepsTold 234 = .ok (.iconst 0, 1) := by decide +kernel
theorem dX12_keepsTold_235 : decode cX12_keepsTold 235 = .ok (.istore_n 1, 1) := by decide +kernel
theorem dX12_keepsTold_236 : decode cX12_keepsTold 236 = .ok (.iload_n 1, 1) := by decide +kernel
theorem dX12_keepsTold_237 : decode cX12_keepsTold 237 = .ok (.bipush 36, 2) := by decide +kernel
theorem dX12_keepsTold_239 : decode cX12_keepsTold 239 = .ok (.if_icmp .ge 25, 3) := by decide +kernel
theorem dX12_keepsTold_242 : decode cX12_keepsTold 242 = .ok (.aload_n 0, 1) := by decide +kernel
theorem dX12_keepsTold_243 : decode cX12_keepsTold 243 = .ok (.getfield 65, 3) := by decide +kernel
theorem dX12_keepsTold_246 : decode cX12_keepsTold 246 = .ok (.iload_n 1, 1) := by decide +kernel
theorem dX12_keepsTold_247 : decode cX12_keepsTold 247 = .ok (.aload_n 0, 1) := by decide +kernel
theorem dX12_keepsTold_248 : decode cX12_keepsTold 248 = .ok (.aload_n 0, 1) := by decide +kernel
theorem dX12_keepsTold_249 : decode cX12_keepsTold 249 = .ok (.getfield 65, 3) := by decide +kernel
theorem dX12_keepsTold_252 : decode cX12_keepsTold 252 = .ok (.iload_n 1, 1) := by decide +kernel
theorem dX12_keepsTold_253 : decode cX12_keepsTold 253 = .ok (.iaload, 1) := by decide +kernel
theorem dX12_keepsTold_254 : decode cX12_keepsTold 254 = .ok (.invokevirtual 483, 3) := by decide +kernel
theorem dX12_keepsTold_257 : decode cX12_keepsTold 257 = .ok (.iastore, 1) := by decide +kernel
theorem dX12_keepsTold_258 : decode cX12_keepsTold 258 = .ok (.iinc 1 1, 3) := by decide +kernel
theorem dX12_keepsTold_261 : decode cX12_keepsTold 261 = .ok (.goto (-25), 3) := by decide +kernel
theorem dX12_keepsTold_264 : decode cX12_keepsTold 264 = .ok (.iconst 0, 1) := by decide +kernel
theorem dX12_keepsTold_265 : decode cX12_keepsTold 265 = .ok (.istore_n 1, 1) := by decide +kernel
theorem dX12_keepsTold_266 : decode cX12_keepsTold 266 = .ok (.iload_n 1, 1) := by decide +kernel
theorem dX12_keepsTold_267 : decode cX12_keepsTold 267 = .ok (.bipush 80, 2) := by decide +kernel
theorem dX12_keepsTold_269 : decode cX12_keepsTold 269 = .ok (.if_icmp .ge 25, 3) := by decide +kernel
theorem dX12_keepsTold_272 : decode cX12_keepsTold 272 = .ok (.aload_n 0, 1) := by decide +kernel
theorem dX12_keepsTold_273 : decode cX12_keepsTold 273 = .ok (.getfield 68, 3) := by decide +kernel
theorem dX12_keepsTold_276 : decode cX12_keepsTold 276 = .ok (.iload_n 1, 1) := by decide +kernel
theorem dX12_keepsTold_277 : decode cX12_keepsTold 277 = .ok (.aload_n 0, 1) := by decide +kernel
theorem dX12_keepsTold_278 : decode cX12_keepsTold 278 = .ok (.aload_n 0, 1) := by decide +kernel
theorem dX12_keepsTold_279 : decode cX12_keepsTold 279 = .ok (.getfield 68, 3) := by decide +kernel
theorem dX12_keepsTold_282 : decode cX12_keepsTold 282 = .ok (.iload_n 1, 1) := by decide +kernel
theorem dX12_keepsTold_283 : decode cX12_keepsTold 283 = .ok (.iaload, 1) := by decide +kernel
theorem dX12_keepsTold_284 : decode cX12_keepsTold 284 = .ok (.invokevirtual 483, 3) := by decide +kernel
theorem dX12_keepsTold_287 : decode cX12_keepsTold 287 = .ok (.iastore, 1) := by decide +kernel
theorem dX12_keepsTold_288 : decode cX12_keepsTold 288 = .ok (.iinc 1 1, 3) := by decide +kernel
theorem dX12_keepsTold_291 : decode cX12_keepsTold 291 = .ok (.goto (-25), 3) := by decide +kernel
theorem dX12_keepsTold_294 : decode cX12_keepsTold 294 = .ok (.return_, 1) := by decide +kernel
theorem dX12_image_0 : decode cX12_image 0 = .ok (.aload_n 0, 1) := by decide +kernel
theorem dX12_image_1 : decode cX12_image 1 = .ok (.iconst 0, 1) := by decide +kernel
theorem dX12_image_2 : decode cX12_image 2 = .ok (.putfield 113, 3) := by decide +kernel
theorem dX12_image_5 : decode cX12_image 5 = .ok (.iload_n 1, 1) := by decide +kernel
theorem dX12_image_6 : decode cX12_image 6 = .ok (.ifCond .ne 12, 3) := by decide +kernel
theorem dX12_image_9 : decode cX12_image 9 = .ok (.aload_n 0, 1) := by decide +kernel
theorem dX12_image_10 : decode cX12_image 10 = .ok (.getfield 486, 3) := by decide +kernel
theorem dX12_image_13 : decode cX12_image 13 = .ok (.ifCond .ne 5, 3) := by decide +kernel
theorem dX12_image_16 : decode cX12_image 16 = .ok (.iconst 0, 1) := by decide +kernel
theorem dX12_image_17 : decode cX12_image 17 = .ok (.ireturn, 1) := by decide +kernel
theorem dX12_image_18 : decode cX12_image 18 = .ok (.aload_n 0, 1) := by decide +kernel
theorem dX12_image_19 : decode cX12_image 19 = .ok (.iload_n 1, 1) := by decide +kernel
theorem dX12_image_20 : decode cX12_image 20 = .ok (.putfield 480, 3) := by decide +kernel
theorem dX12_image_23 : decode cX12_image 23 = .ok (.aload_n 0, 1) := by decide +kernel
theorem dX12_image_24 : decode cX12_image 24 = .ok (.iconst 1, 1) := by decide +kernel
theorem dX12_image_25 : decode cX12_image 25 = .ok (.putfield 486, 3) := by decide +kernel
theorem dX12_image_28 : decode cX12_image 28 = .ok (.aload_n 0, 1) := by decide +kernel
theorem dX12_image_29 : decode cX12_image 29 = .ok (.iconst 0, 1) := by decide +kernel
theorem dX12_image_30 : decode cX12_image 30 = .ok (.putfield 477, 3) := by decide +kernel
theorem dX12_image_33 : decode cX12_image 33 = .ok (.iconst 0, 1) := by decide +kernel
theorem dX12_image_34 : decode cX12_image 34 = .ok (.istore_n 2, 1) := by decide +kernel
theorem dX12_image_35 : decode cX12_image 35 = .ok (.iload_n 2, 1) := by decide +kernel
theorem dX12_image_36 : decode cX12_image 36 = .ok (.bipush 100, 2) := by decide +kernel
theorem dX12_image_38 : decode cX12_image 38 = .ok (.if_icmp .ge 25, 3) := by decide +kernel
theorem dX12_image_41 : decode cX12_image 41 = .ok (.aload_n 0, 1) := by decide +kernel
theorem dX12_image_42 : decode cX12_image 42 = .ok (.getfield 7, 3) := by decide +kernel
theorem dX12_image_45 : decode cX12_image 45 = .ok (.iload_n 2, 1) := by decide +kernel
theorem dX12_image_46 : decode cX12_image 46 = .ok (.aload_n 0, 1) := by decide +kernel
theorem dX12_image_47 : decode cX12_image 47 = .ok (.aload_n 0, 1) := by decide +kernel
theorem dX12_image_48 : decode cX12_image 48 = .ok (.getfield 7, 3) := by decide +kernel
theorem dX12_image_51 : decode cX12_image 51 = .ok (.iload_n 2, 1) := by decide +kernel
theorem dX12_image_52 : decode cX12_image 52 = .ok (.iaload, 1) := by decide +kernel
theorem dX12_image_53 : decode cX12_image 53 = .ok (.invokevirtual 483, 3) := by decide +kernel
theorem dX12_image_56 : decode cX12_image 56 = .ok (.iastore, 1) := by decide +kernel
theorem dX12_image_57 : decode cX12_image 57 = .ok (.iinc 2 1, 3) := by decide +kernel
theorem dX12_image_60 : decode cX12_image 60 = .ok (.goto (-25), 3) := by decide +kernel
theorem dX12_image_63 : decode cX12_image 63 = .ok (.aload_n 0, 1) := by decide +kernel
theorem dX12_image_64 : decode cX12_image 64 = .ok (.invokevirtual 489, 3) := by decide +kernel
theorem dX12_image_67 : decode cX12_image 67 = .ok (.iconst 0, 1) := by decide +kernel
theorem dX12_image_68 : decode cX12_image 68 = .ok (.istore_n 2, 1) := by decide +kernel
theorem dX12_image_69 : decode cX12_image 69 = .ok (.iload_n 2, 1) := by decide +kernel
theorem dX12_image_70 : decode cX12_image 70 = .ok (.sipush 600, 3) := by decide +kernel
theorem dX12_image_73 : decode cX12_image 73 = .ok (.if_icmp .ge 25, 3) := by decide +kernel
theorem dX12_image_76 : decode cX12_image 76 = .ok (.aload_n 0, 1) := by decide +kernel
theorem dX12_image_77 : decode cX12_image 77 = .ok (.getfield 25, 3) := by decide +kernel
theorem dX12_image_80 : decode cX12_image 80 = .ok (.iload_n 2, 1) := by decide +kernel
theorem dX12_image_81 : decode cX12_image 81 = .ok (.aload_n 0, 1) := by decide +kernel
theorem dX12_image_82 : decode cX12_image 82 = .ok (.aload_n 0, 1) := by decide +kernel
theorem dX12_image_83 : decode cX12_image 83 = .ok (.getfield 25, 3) := by decide +kernel
theorem dX12_image_86 : decode cX12_image 86 = .ok (.iload_n 2, 1) := by decide +kernel
theorem dX12_image_87 : decode cX12_image 87 = .ok (.iaload, 1) := by decide +kernel
theorem dX12_image_88 : decode cX12_image 88 = .ok (.invokevirtual 483, 3) := by decide +kernel
theorem dX12_image_91 : decode cX12_image 91 = .ok (.iastore, 1) := by decide +kernel
theorem dX12_image_92 : decode cX12_image 92 = .ok (.iinc 2 1, 3) := by decide +kernel
theorem dX12_image_95 : decode cX12_image 95 = .ok (.goto (-26), 3) := by decide +kernel
theorem dX12_image_98 : decode cX12_image 98 = .ok (.aload_n 0, 1) := by decide +kernel
theorem dX12_image_99 : decode cX12_image 99 = .ok (.invokevirtual 492, 3) := by decide +kernel
theorem dX12_image_102 : decode cX12_image 102 = .ok (.iload_n 1, 1) := by decide +kernel
theorem dX12_image_103 : decode cX12_image 103 = .ok (.ifCond .ne 8, 3) := by decide +kernel
theorem dX12_image_106 : decode cX12_image 106 = .ok (.aload_n 0, 1) := by decide +kernel
theorem dX12_image_107 : decode cX12_image 107 = .ok (.iconst 0, 1) := by decide +kernel
theorem dX12_image_108 : decode cX12_image 108 = .ok (.putfield 116, 3) := by decide +kernel
theorem dX12_image_111 : decode cX12_image 111 = .ok (.iconst 1, 1) := by decide +kernel
theorem dX12_image_112 : decode cX12_image 112 = .ok (.ireturn, 1) := by decide +kernel
theorem dX12_potMany_0 : decode cX12_potMany 0 = .ok (.iconst 0, 1) := by decide +kernel
theorem dX12_potMany_1 : decode cX12_potMany 1 = .ok (.istore_n 1, 1) := by decide +kernel
theorem dX12_potMany_2 : decode cX12_potMany 2 = .ok (.iconst 0, 1) := by decide +kernel
theorem dX12_potMany_3 : decode cX12_potMany 3 = .ok (.istore_n 2, 1) := by decide +kernel
theorem dX12_potMany_4 : decode cX12_potMany 4 = .ok (.iload_n 2, 1) := by decide +kernel
theorem dX12_potMany_5 : decode cX12_potMany 5 = .ok (.aload_n 0, 1) := by decide +kernel
theorem dX12_potMany_6 : decode cX12_potMany 6 = .ok (.getfield 131, 3) := by decide +kernel
theorem dX12_potMany_9 : decode cX12_potMany 9 = .ok (.if_icmp .ge 22, 3) := by decide +kernel
theorem dX12_potMany_12 : decode cX12_potMany 12 = .ok (.aload_n 0, 1) := by decide +kernel
theorem dX12_potMany_13 : decode cX12_potMany 13 = .ok (.iload_n 2, 1) := by decide +kernel
theorem dX12_potMany_14 : decode cX12_potMany 14 = .ok (.invokevirtual 324, 3) := by decide +kernel
theorem dX12_potMany_17 : decode cX12_potMany 17 = .ok (.iconst (-1), 1) := by decide +kernel
theorem dX12_potMany_18 : decode cX12_potMany 18 = .ok (.if_icmp .eq 7, 3) := by decide +kernel
theorem dX12_potMany_21 : decode cX12_potMany 21 = .ok (.iload_n 1, 1) := by decide +kernel
theorem dX12_potMany_22 : decode cX12_potMany 22 = .ok (.iconst 1, 1) := by decide +kernel
theorem dX12_potMany_23 : decode cX12_potMany 23 = .ok (.iadd, 1) := by decide +kernel
theorem dX12_potMany_24 : decode cX12_potMany 24 = .ok (.istore_n 1, 1) := by decide +kernel
theorem dX12_potMany_25 : decode cX12_potMany 25 = .ok (.iinc 2 1, 3) := by decide +kernel
theorem dX12_potMany_28 : decode cX12_potMany 28 = .ok (.goto (-24), 3) := by decide +kernel
theorem dX12_potMany_31 : decode cX12_potMany 31 = .ok (.iload_n 1, 1) := by decide +kernel
theorem dX12_potMany_32 : decode cX12_potMany 32 = .ok (.ireturn, 1) := by decide +kernel
theorem dX12_look_0 : decode cX12_look 0 = .ok (.aload_n 0, 1) := by decide +kernel
theorem dX12_look_1 : decode cX12_look 1 = .ok (.iconst 0, 1) := by decide +kernel
theorem dX12_look_2 : decode cX12_look 2 = .ok (.putfield 113, 3) := by decide +kernel
theorem dX12_look_5 : decode cX12_look 5 = .ok (.iload_n 1, 1) := by decide +kernel
theorem dX12_look_6 : decode cX12_look 6 = .ok (.ifCond .ne 8, 3) := by decide +kernel
theorem dX12_look_9 : decode cX12_look 9 = .ok (.aload_n 0, 1) := by decide +kernel
theorem dX12_look_10 : decode cX12_look 10 = .ok (.getfield 131, 3) := by decide +kernel
theorem dX12_look_13 : decode cX12_look 13 = .ok (.ireturn, 1) := by decide +kernel
theorem dX12_look_14 : decode cX12_look 14 = .ok (.iload_n 1, 1) := by decide +kernel
theorem dX12_look_15 : decode cX12_look 15 = .ok (.iconst 1, 1) := by decide +kernel
theorem dX12_look_16 : decode cX12_look 16 = .ok (.if_icmp .ne 10, 3) := by decide +kernel
theorem dX12_look_19 : decode cX12_look 19 = .ok (.aload_n 0, 1) := by decide +kernel
theorem dX12_look_20 : decode cX12_look 20 = .ok (.getfield 7, 3) := by decide +kernel
theorem dX12_look_23 : decode cX12_look 23 = .ok (.iconst 0, 1) := by decide +kernel
theorem dX12_look_24 : decode cX12_look 24 = .ok (.iaload, 1) := by decide +kernel
theorem dX12_look_25 : decode cX12_look 25 = .ok (.ireturn, 1) := by decide +kernel
theorem dX12_look_26 : decode cX12_look 26 = .ok (.iload_n 1, 1) := by decide +kernel
theorem dX12_look_27 : decode cX12_look 27 = .ok (.iconst 2, 1) := by decide +kernel
theorem dX12_look_28 : decode cX12_look 28 = .ok (.if_icmp .ne 10, 3) := by decide +kernel
theorem dX12_look_31 : decode cX12_look 31 = .ok (.aload_n 0, 1) := by decide +kernel
theorem dX12_look_32 : decode cX12_look 32 = .ok (.getfield 7, 3) := by decide +kernel
theorem dX12_look_35 : decode cX12_look 35 = .ok (.iconst 3, 1) := by decide +kernel
theorem dX12_look_36 : decode cX12_look 36 = .ok (.iaload, 1) := by decide +kernel
theorem dX12_look_37 : decode cX12_look 37 = .ok (.ireturn, 1) := by decide +kernel
theorem dX12_look_38 : decode cX12_look 38 = .ok (.iload_n 1, 1) := by decide +kernel
theorem dX12_look_39 : decode cX12_look 39 = .ok (.iconst 3, 1) := by decide +kernel
theorem dX12_look_40 : decode cX12_look 40 = .ok (.if_icmp .ne 8, 3) := by decide +kernel
theorem dX12_look_43 : decode cX12_look 43 = .ok (.aload_n 0, 1) := by decide +kernel
theorem dX12_look_44 : decode cX12_look 44 = .ok (.invokevirtual 495, 3) := by decide +kernel
theorem dX12_look_47 : decode cX12_look 47 = .ok (.ireturn, 1) := by decide +kernel
theorem dX12_look_48 : decode cX12_look 48 = .ok (.iload_n 1, 1) := by decide +kernel
theorem dX12_look_49 : decode cX12_look 49 = .ok (.iconst 4, 1) := by decide +kernel
theorem dX12_look_50 : decode cX12_look 50 = .ok (.if_icmp .ne 10, 3) := by decide +kernel
theorem dX12_look_53 : decode cX12_look 53 = .ok (.aload_n 0, 1) := by decide +kernel
theorem dX12_look_54 : decode cX12_look 54 = .ok (.getfield 7, 3) := by decide +kernel
theorem dX12_look_57 : decode cX12_look 57 = .ok (.iconst 2, 1) := by decide +kernel
theorem dX12_look_58 : decode cX12_look 58 = .ok (.iaload, 1) := by decide +kernel
theorem dX12_look_59 : decode cX12_look 59 = .ok (.ireturn, 1) := by decide +kernel
theorem dX12_look_60 : decode cX12_look 60 = .ok (.iload_n 1, 1) := by decide +kernel
theorem dX12_look_61 : decode cX12_look 61 = .ok (.iconst 5, 1) := by decide +kernel
theorem dX12_look_62 : decode cX12_look 62 = .ok (.if_icmp .ne 10, 3) := by decide +kernel
theorem dX12_look_65 : decode cX12_look 65 = .ok (.aload_n 0, 1) := by decide +kernel
theorem dX12_look_66 : decode cX12_look 66 = .ok (.getfield 7, 3) := by decide +kernel
theorem dX12_look_69 : decode cX12_look 69 = .ok (.iconst 1, 1) := by decide +kernel
theorem dX12_look_70 : decode cX12_look 70 = .ok (.iaload, 1) := by decide +kernel
theorem dX12_look_71 : decode cX12_look 71 = .ok (.ireturn, 1) := by decide +kernel
theorem dX12_look_72 : decode cX12_look 72 = .ok (.iload_n 1, 1) := by decide +kernel
theorem dX12_look_73 : decode cX12_look 73 = .ok (.bipush 6, 2) := by decide +kernel
theorem dX12_look_75 : decode cX12_look 75 = .ok (.if_icmp .ne 8, 3) := by decide +kernel
theorem dX12_look_78 : decode cX12_look 78 = .ok (.aload_n 0, 1) := by decide +kernel
theorem dX12_look_79 : decode cX12_look 79 = .ok (.getfield 297, 3) := by decide +kernel
theorem dX12_look_82 : decode cX12_look 82 = .ok (.ireturn, 1) := by decide +kernel
theorem dX12_look_83 : decode cX12_look 83 = .ok (.iload_n 1, 1) := by decide +kernel
theorem dX12_look_84 : decode cX12_look 84 = .ok (.bipush 7, 2) := by decide +kernel
theorem dX12_look_86 : decode cX12_look 86 = .ok (.if_icmp .ne 10, 3) := by decide +kernel
theorem dX12_look_89 : decode cX12_look 89 = .ok (.aload_n 0, 1) := by decide +kernel
theorem dX12_look_90 : decode cX12_look 90 = .ok (.getfield 34, 3) := by decide +kernel
theorem dX12_look_93 : decode cX12_look 93 = .ok (.iconst 1, 1) := by decide +kernel
theorem dX12_look_94 : decode cX12_look 94 = .ok (.iaload, 1) := by decide +kernel
theorem dX12_look_95 : decode cX12_look 95 = .ok (.ireturn, 1) := by decide +kernel
theorem dX12_look_96 : decode cX12_look 96 = .ok (.iload_n 1, 1) := by decide +kernel
theorem dX12_look_97 : decode cX12_look 97 = .ok (.bipush 8, 2) := by decide +kernel
theorem dX12_look_99 : decode cX12_look 99 = .ok (.if_icmp .ne 8, 3) := by decide +kernel
theorem dX12_look_102 : decode cX12_look 102 = .ok (.aload_n 0, 1) := by decide +kernel
theorem dX12_look_103 : decode cX12_look 103 = .ok (.getfield 303, 3) := by decide +kernel
theorem dX12_look_106 : decode cX12_look 106 = .ok (.ireturn, 1) := by decide +kernel
theorem dX12_look_107 : decode cX12_look 107 = .ok (.iload_n 1, 1) := by decide +kernel
theorem dX12_look_108 : decode cX12_look 108 = .ok (.bipush 9, 2) := by decide +kernel
theorem dX12_look_110 : decode cX12_look 110 = .ok (.if_icmp .ne 8, 3) := by decide +kernel
theorem dX12_look_113 : decode cX12_look 113 = .ok (.aload_n 0, 1) := by decide +kernel
theorem dX12_look_114 : decode cX12_look 114 = .ok (.getfield 300, 3) := by decide +kernel
theorem dX12_look_117 : decode cX12_look 117 = .ok (.ireturn, 1) := by decide +kernel
theorem dX12_look_118 : decode cX12_look 118 = .ok (.iload_n 1, 1) := by decide +kernel
theorem dX12_look_119 : decode cX12_look 119 = .ok (.bipush 10, 2) := by decide +kernel
theorem dX12_look_121 : decode cX12_look 121 = .ok (.if_icmp .ne 8, 3) := by decide +kernel
theorem dX12_look_124 : decode cX12_look 124 = .ok (.aload_n 0, 1) := by decide +kernel
theorem dX12_look_125 : decode cX12_look 125 = .ok (.getfield 459, 3) := by decide +kernel
theorem dX12_look_128 : decode cX12_look 128 = .ok (.ireturn, 1) := by decide +kernel
theorem dX12_look_129 : decode cX12_look 129 = .ok (.iload_n 1, 1) := by decide +kernel
theorem dX12_look_130 : decode cX12_look 130 = .ok (.bipush 11, 2) := by decide +kernel
theorem dX12_look_132 : decode cX12_look 132 = .ok (.if_icmp .ne 8, 3) := by decide +kernel
theorem dX12_look_135 : decode cX12_look 135 = .ok (.aload_n 0, 1) := by decide +kernel
theorem dX12_look_136 : decode cX12_look 136 = .ok (.getfield 116, 3) := by decide +kernel
theorem dX12_look_139 : decode cX12_look 139 = .ok (.ireturn, 1) := by decide +kernel
theorem dX12_look_140 : decode cX12_look 140 = .ok (.iload_n 1, 1) := by decide +kernel
theorem dX12_look_141 : decode cX12_look 141 = .ok (.bipush 12, 2) := by decide +kernel
theorem dX12_look_143 : decode cX12_look 143 = .ok (.if_icmp .ne 8, 3) := by decide +kernel
theorem dX12_look_146 : decode cX12_look 146 = .ok (.aload_n 0, 1) := by decide +kernel
theorem dX12_look_147 : decode cX12_look 147 = .ok (.invokevirtual 398, 3) := by decide +kernel
theorem dX12_look_150 : decode cX12_look 150 = .ok (.ireturn, 1) := by decide +kernel
theorem dX12_look_151 : decode cX12_look 151 = .ok (.iload_n 1, 1) := by decide +kernel
theorem dX12_look_152 : decode cX12_look 152 = .ok (.bipush 13, 2) := by decide +kernel
theorem dX12_look_154 : decode cX12_look 154 = .ok (.if_icmp .ne 8, 3) := by decide +kernel
theorem dX12_look_157 : decode cX12_look 157 = .ok (.aload_n 0, 1) := by decide +kernel
theorem dX12_look_158 : decode cX12_look 158 = .ok (.getfield 150, 3) := by decide +kernel
theorem dX12_look_161 : decode cX12_look 161 = .ok (.ireturn, 1) := by decide +kernel
theorem dX12_look_162 : decode cX12_look 162 = .ok (.iload_n 1, 1) := by decide +kernel
theorem dX12_look_163 : decode cX12_look 163 = .ok (.bipush 14, 2) := by decide +kernel
theorem dX12_look_165 : decode cX12_look 165 = .ok (.if_icmp .ne 8, 3) := by decide +kernel
theorem dX12_look_168 : decode cX12_look 168 = .ok (.aload_n 0, 1) := by decide +kernel
theorem dX12_look_169 : decode cX12_look 169 = .ok (.getfield 153, 3) := by decide +kernel
theorem dX12_look_172 : decode cX12_look 172 = .ok (.ireturn, 1) := by decide +kernel
theorem dX12_look_173 : decode cX12_look 173 = .ok (.aload_n 0, 1) := by decide +kernel
theorem dX12_look_174 : decode cX12_look 174 = .ok (.iload_n 1, 1) := by decide +kernel
theorem dX12_look_175 : decode cX12_look 175 = .ok (.bipush 20, 2) := by decide +kernel
theorem dX12_look_177 : decode cX12_look 177 = .ok (.bipush 27, 2) := by decide +kernel
theorem dX12_look_179 : decode cX12_look 179 = .ok (.invokevirtual 142, 3) := by decide +kernel
theorem dX12_look_182 : decode cX12_look 182 = .ok (.ifCond .eq 15, 3) := by decide +kernel
theorem dX12_look_185 : decode cX12_look 185 = .ok (.aload_n 0, 1) := by decide +kernel
theorem dX12_look_186 : decode cX12_look 186 = .ok (.getfield 19, 3) := by decide +kernel
theorem dX12_look_189 : decode cX12_look 189 = .ok (.iload_n 1, 1) := by decide +kernel
theorem dX12_look_190 : decode cX12_look 190 = .ok (.bipush 20, 2) := by decide +kernel
theorem dX12_look_192 : decode cX12_look 192 = .ok (.isub, 1) := by decide +kernel
theorem dX12_look_193 : decode cX12_look 193 = .ok (.iaload, 1) := by decide +kernel
theorem dX12_look_194 : decode cX12_look 194 = .ok (.goto 4, 3) := by decide +kernel
theorem dX12_look_197 : decode cX12_look 197 = .ok (.iconst (-1), 1) := by decide +kernel
theorem dX12_look_198 : decode cX12_look 198 = .ok (.ireturn, 1) := by decide +kernel
