theorem dX0_init_0 : decode cX0_init 0 = .ok (.aload_n 0, 1) := by decide +kernel
theorem dX0_init_1 : decode cX0_init 1 = .ok (.invokespecial 3, 3) := by decide +kernel
theorem dX0_init_4 : decode cX0_init 4 = .ok (.aload_n 0, 1) := by decide +kernel
theorem dX0_init_5 : decode cX0_init 5 = .ok (.bipush 64, 2) := by decide +kernel
theorem dX0_init_7 : decode cX0_init 7 = .ok (.newarray .int, 2) := by decide +kernel
theorem dX0_init_9 : decode cX0_init 9 = .ok (.putfield 9, 3) := by decide +kernel
theorem dX0_init_12 : decode cX0_init 12 = .ok (.aload_n 0, 1) := by decide +kernel
theorem dX0_init_13 : decode cX0_init 13 = .ok (.bipush 8, 2) := by decide +kernel
theorem dX0_init_15 : decode cX0_init 15 = .ok (.newarray .int, 2) := by decide +kernel
theorem dX0_init_17 : decode cX0_init 17 = .ok (.putfield 15, 3) := by decide +kernel
theorem dX0_init_20 : decode cX0_init 20 = .ok (.aload_n 0, 1) := by decide +kernel
theorem dX0_init_21 : decode cX0_init 21 = .ok (.bipush 8, 2) := by decide +kernel
theorem dX0_init_23 : decode cX0_init 23 = .ok (.newarray .int, 2) := by decide +kernel
theorem dX0_init_25 : decode cX0_init 25 = .ok (.putfield 18, 3) := by decide +kernel
theorem dX0_init_28 : decode cX0_init 28 = .ok (.aload_n 0, 1) := by decide +kernel
theorem dX0_init_29 : decode cX0_init 29 = .ok (.bipush 8, 2) := by decide +kernel
theorem dX0_init_31 : decode cX0_init 31 = .ok (.newarray .int, 2) := by decide +kernel
theorem dX0_init_33 : decode cX0_init 33 = .ok (.putfield 21, 3) := by decide +kernel
theorem dX0_init_36 : decode cX0_init 36 = .ok (.aload_n 0, 1) := by decide +kernel
theorem dX0_init_37 : decode cX0_init 37 = .ok (.bipush 8, 2) := by decide +kernel
theorem dX0_init_39 : decode cX0_init 39 = .ok (.newarray .int, 2) := by decide +kernel
theorem dX0_init_41 : decode cX0_init 41 = .ok (.putfield 24, 3) := by decide +kernel
theorem dX0_init_44 : decode cX0_init 44 = .ok (.iconst 0, 1) := by decide +kernel
theorem dX0_init_45 : decode cX0_init 45 = .ok (.istore_n 1, 1) := by decide +kernel
theorem dX0_init_46 : decode cX0_init 46 = .ok (.iload_n 1, 1) := by decide +kernel
theorem dX0_init_47 : decode cX0_init 47 = .ok (.aload_n 0, 1) := by decide +kernel
theorem dX0_init_48 : decode cX0_init 48 = .ok (.getfield 9, 3) := by decide +kernel
theorem dX0_init_51 : decode cX0_init 51 = .ok (.arraylength, 1) := by decide +kernel
theorem dX0_init_52 : decode cX0_init 52 = .ok (.if_icmp .ge 17, 3) := by decide +kernel
theorem dX0_init_55 : decode cX0_init 55 = .ok (.aload_n 0, 1) := by decide +kernel
theorem dX0_init_56 : decode cX0_init 56 = .ok (.getfield 9, 3) := by decide +kernel
theorem dX0_init_59 : decode cX0_init 59 = .ok (.iload_n 1, 1) := by decide +kernel
theorem dX0_init_60 : decode cX0_init 60 = .ok (.bipush 50, 2) := by decide +kernel
theorem dX0_init_62 : decode cX0_init 62 = .ok (.iastore, 1) := by decide +kernel
theorem dX0_init_63 : decode cX0_init 63 = .ok (.iinc 1 1, 3) := by decide +kernel
theorem dX0_init_66 : decode cX0_init 66 = .ok (.goto (-20), 3) := by decide +kernel
theorem dX0_init_69 : decode cX0_init 69 = .ok (.iconst 0, 1) := by decide +kernel
theorem dX0_init_70 : decode cX0_init 70 = .ok (.istore_n 1, 1) := by decide +kernel
theorem dX0_init_71 : decode cX0_init 71 = .ok (.iload_n 1, 1) := by decide +kernel
theorem dX0_init_72 : decode cX0_init 72 = .ok (.bipush 8, 2) := by decide +kernel
theorem dX0_init_74 : decode cX0_init 74 = .ok (.if_icmp .ge 23, 3) := by decide +kernel
theorem dX0_init_77 : decode cX0_init 77 = .ok (.aload_n 0, 1) := by decide +kernel
theorem dX0_init_78 : decode cX0_init 78 = .ok (.getfield 15, 3) := by decide +kernel
theorem dX0_init_81 : decode cX0_init 81 = .ok (.iload_n 1, 1) := by decide +kernel
theorem dX0_init_82 : decode cX0_init 82 = .ok (.iconst (-1), 1) := by decide +kernel
theorem dX0_init_83 : decode cX0_init 83 = .ok (.iastore, 1) := by decide +kernel
theorem dX0_init_84 : decode cX0_init 84 = .ok (.aload_n 0, 1) := by decide +kernel
theorem dX0_init_85 : decode cX0_init 85 = .ok (.getfield 21, 3) := by decide +kernel
theorem dX0_init_88 : decode cX0_init 88 = .ok (.iload_n 1, 1) := by decide +kernel
theorem dX0_init_89 : decode cX0_init 89 = .ok (.iconst (-1), 1) := by decide +kernel
theorem dX0_init_90 : decode cX0_init 90 = .ok (.iastore, 1) := by decide +kernel
theorem dX0_init_91 : decode cX0_init 91 = .ok (.iinc 1 1, 3) := by decide +kernel
theorem dX0_init_94 : decode cX0_init 94 = .ok (.goto (-23), 3) := by decide +kernel
theorem dX0_init_97 : decode cX0_init 97 = .ok (.return_, 1) := by decide +kernel
theorem dX0_copyFrom_0 : decode cX0_copyFrom 0 = .ok (.aload_n 1, 1) := by decide +kernel
theorem dX0_copyFrom_1 : decode cX0_copyFrom 1 = .ok (.getfield 9, 3) := by decide +kernel
theorem dX0_copyFrom_4 : decode cX0_copyFrom 4 = .ok (.iconst 0, 1) := by decide +kernel
theorem dX0_copyFrom_5 : decode cX0_copyFrom 5 = .ok (.aload_n 0, 1) := by decide +kernel
theorem dX0_copyFrom_6 : decode cX0_copyFrom 6 = .ok (.getfield 9, 3) := by decide +kernel
theorem dX0_copyFrom_9 : decode cX0_copyFrom 9 = .ok (.iconst 0, 1) := by decide +kernel
theorem dX0_copyFrom_10 : decode cX0_copyFrom 10 = .ok (.aload_n 0, 1) := by decide +kernel
theorem dX0_copyFrom_11 : decode cX0_copyFrom 11 = .ok (.getfield 9, 3) := by decide +kernel
theorem dX0_copyFrom_14 : decode cX0_copyFrom 14 = .ok (.arraylength, 1) := by decide +kernel
theorem dX0_copyFrom_15 : decode cX0_copyFrom 15 = .ok (.invokestatic 27, 3) := by decide +kernel
theorem dX0_copyFrom_18 : decode cX0_copyFrom 18 = .ok (.aload_n 1, 1) := by decide +kernel
theorem dX0_copyFrom_19 : decode cX0_copyFrom 19 = .ok (.getfield 15, 3) := by decide +kernel
theorem dX0_copyFrom_22 : decode cX0_copyFrom 22 = .ok (.iconst 0, 1) := by decide +kernel
theorem dX0_copyFrom_23 : decode cX0_copyFrom 23 = .ok (.aload_n 0, 1) := by decide +kernel
theorem dX0_copyFrom_24 : decode cX0_copyFrom 24 = .ok (.getfield 15, 3) := by decide +kernel
theorem dX0_copyFrom_27 : decode cX0_copyFrom 27 = .ok (.iconst 0, 1) := by decide +kernel
theorem dX0_copyFrom_28 : decode cX0_copyFrom 28 = .ok (.bipush 8, 2) := by decide +kernel
theorem dX0_copyFrom_30 : decode cX0_copyFrom 30 = .ok (.invokestatic 27, 3) := by decide +kernel
theorem dX0_copyFrom_33 : decode cX0_copyFrom 33 = .ok (.aload_n 1, 1) := by decide +kernel
theorem dX0_copyFrom_34 : decode cX0_copyFrom 34 = .ok (.getfield 18, 3) := by decide +kernel
theorem dX0_copyFrom_37 : decode cX0_copyFrom 37 = .ok (.iconst 0, 1) := by decide +kernel
theorem dX0_copyFrom_38 : decode cX0_copyFrom 38 = .ok (.aload_n 0, 1) := by decide +kernel
theorem dX0_copyFrom_39 : decode cX0_copyFrom 39 = .ok (.getfield 18, 3) := by decide +kernel
theorem dX0_copyFrom_42 : decode cX0_copyFrom 42 = .ok (.iconst 0, 1) := by decide +kernel
theorem dX0_copyFrom_43 : decode cX0_copyFrom 43 = .ok (.bipush 8, 2) := by decide +kernel
theorem dX0_copyFrom_45 : decode cX0_copyFrom 45 = .ok (.invokestatic 27, 3) := by decide +kernel
theorem dX0_copyFrom_48 : decode cX0_copyFrom 48 = .ok (.aload_n 1, 1) := by decide +kernel
theorem dX0_copyFrom_49 : decode cX0_copyFrom 49 = .ok (.getfield 21, 3) := by decide +kernel
theorem dX0_copyFrom_52 : decode cX0_copyFrom 52 = .ok (.iconst 0, 1) := by decide +kernel
theorem dX0_copyFrom_53 : decode cX0_copyFrom 53 = .ok (.aload_n 0, 1) := by decide +kernel
theorem dX0_copyFrom_54 : decode cX0_copyFrom 54 = .ok (.getfield 21, 3) := by decide +kernel
theorem dX0_copyFrom_57 : decode cX0_copyFrom 57 = .ok (.iconst 0, 1) := by decide +kernel
theorem dX0_copyFrom_58 : decode cX0_copyFrom 58 = .ok (.bipush 8, 2) := by decide +kernel
theorem dX0_copyFrom_60 : decode cX0_copyFrom 60 = .ok (.invokestatic 27, 3) := by decide +kernel
theorem dX0_copyFrom_63 : decode cX0_copyFrom 63 = .ok (.aload_n 1, 1) := by decide +kernel
theorem dX0_copyFrom_64 : decode cX0_copyFrom 64 = .ok (.getfield 24, 3) := by decide +kernel
theorem dX0_copyFrom_67 : decode cX0_copyFrom 67 = .ok (.iconst 0, 1) := by decide +kernel
theorem dX0_copyFrom_68 : decode cX0_copyFrom 68 = .ok (.aload_n 0, 1) := by decide +kernel
theorem dX0_copyFrom_69 : decode cX0_copyFrom 69 = .ok (.getfield 24, 3) := by decide +kernel
theorem dX0_copyFrom_72 : decode cX0_copyFrom 72 = .ok (.iconst 0, 1) := by decide +kernel
theorem dX0_copyFrom_73 : decode cX0_copyFrom 73 = .ok (.bipush 8, 2) := by decide +kernel
theorem dX0_copyFrom_75 : decode cX0_copyFrom 75 = .ok (.invokestatic 27, 3) := by decide +kernel
theorem dX0_copyFrom_78 : decode cX0_copyFrom 78 = .ok (.aload_n 0, 1) := by decide +kernel
theorem dX0_copyFrom_79 : decode cX0_copyFrom 79 = .ok (.aload_n 1, 1) := by decide +kernel
theorem dX0_copyFrom_80 : decode cX0_copyFrom 80 = .ok (.getfield 33, 3) := by decide +kernel
theorem dX0_copyFrom_83 : decode cX0_copyFrom 83 = .ok (.putfield 33, 3) := by decide +kernel
theorem dX0_copyFrom_86 : decode cX0_copyFrom 86 = .ok (.aload_n 0, 1) := by decide +kernel
theorem dX0_copyFrom_87 : decode cX0_copyFrom 87 = .ok (.aload_n 1, 1) := by decide +kernel
theorem dX0_copyFrom_88 : decode cX0_copyFrom 88 = .ok (.getfield 37, 3) := by decide +kernel
theorem dX0_copyFrom_91 : decode cX0_copyFrom 91 = .ok (.putfield 37, 3) := by decide +kernel
theorem dX0_copyFrom_94 : decode cX0_copyFrom 94 = .ok (.aload_n 0, 1) := by decide +kernel
theorem dX0_copyFrom_95 : decode cX0_copyFrom 95 = .ok (.aload_n 1, 1) := by decide +kernel
theorem dX0_copyFrom_96 : decode cX0_copyFrom 96 = .ok (.getfield 40, 3) := by decide +kernel
theorem dX0_copyFrom_99 : decode cX0_copyFrom 99 = .ok (.putfield 40, 3) := by decide +kernel
theorem dX0_copyFrom_102 : decode cX0_copyFrom 102 = .ok (.aload_n 0, 1) := by decide +kernel
theorem dX0_copyFrom_103 : decode cX0_copyFrom 103 = .ok (.aload_n 1, 1) := by decide +kernel
theorem dX0_copyFrom_104 : decode cX0_copyFrom 104 = .ok (.getfield 43, 3) := by decide +kernel
theorem dX0_copyFrom_107 : decode cX0_copyFrom 107 = .ok (.putfield 43, 3) := by decide +kernel
theorem dX0_copyFrom_110 : decode cX0_copyFrom 110 = .ok (.return_, 1) := by decide +kernel
theorem dX0_hasPot_0 : decode cX0_hasPot 0 = .ok (.aload_n 0, 1) := by decide +kernel
theorem dX0_hasPot_1 : decode cX0_hasPot 1 = .ok (.getfield 15, 3) := by decide +kernel
theorem dX0_hasPot_4 : decode cX0_hasPot 4 = .ok (.iload_n 1, 1) := by decide +kernel
theorem dX0_hasPot_5 : decode cX0_hasPot 5 = .ok (.iaload, 1) := by decide +kernel
theorem dX0_hasPot_6 : decode cX0_hasPot 6 = .ok (.iconst (-1), 1) := by decide +kernel
theorem dX0_hasPot_7 : decode cX0_hasPot 7 = .ok (.if_icmp .eq 7, 3) := by decide +kernel
theorem dX0_hasPot_10 : decode cX0_hasPot 10 = .ok (.iconst 1, 1) := by decide +kernel
theorem dX0_hasPot_11 : decode cX0_hasPot 11 = .ok (.goto 4, 3) := by decide +kernel
theorem dX0_hasPot_14 : decode cX0_hasPot 14 = .ok (.iconst 0, 1) := by decide +kernel
theorem dX0_hasPot_15 : decode cX0_hasPot 15 = .ok (.ireturn, 1) := by decide +kernel
theorem dX0_putPot_0 : decode cX0_putPot 0 = .ok (.aload_n 0, 1) := by decide +kernel
theorem dX0_putPot_1 : decode cX0_putPot 1 = .ok (.getfield 15, 3) := by decide +kernel
theorem dX0_putPot_4 : decode cX0_putPot 4 = .ok (.iload_n 1, 1) := by decide +kernel
theorem dX0_putPot_5 : decode cX0_putPot 5 = .ok (.iload_n 2, 1) := by decide +kernel
theorem dX0_putPot_6 : decode cX0_putPot 6 = .ok (.iastore, 1) := by decide +kernel
theorem dX0_putPot_7 : decode cX0_putPot 7 = .ok (.aload_n 0, 1) := by decide +kernel
theorem dX0_putPot_8 : decode cX0_putPot 8 = .ok (.getfield 18, 3) := by decide +kernel
theorem dX0_putPot_11 : decode cX0_putPot 11 = .ok (.iload_n 1, 1) := by decide +kernel
theorem dX0_putPot_12 : decode cX0_putPot 12 = .ok (.iload_n 3, 1) := by decide +kernel
theorem dX0_putPot_13 : decode cX0_putPot 13 = .ok (.iastore, 1) := by decide +kernel
theorem dX0_putPot_14 : decode cX0_putPot 14 = .ok (.aload_n 0, 1) := by decide +kernel
theorem dX0_putPot_15 : decode cX0_putPot 15 = .ok (.getfield 21, 3) := by decide +kernel
theorem dX0_putPot_18 : decode cX0_putPot 18 = .ok (.iload_n 1, 1) := by decide +kernel
theorem dX0_putPot_19 : decode cX0_putPot 19 = .ok (.iload 4, 2) := by decide +kernel
theorem dX0_putPot_21 : decode cX0_putPot 21 = .ok (.iastore, 1) := by decide +kernel
theorem dX0_putPot_22 : decode cX0_putPot 22 = .ok (.aload_n 0, 1) := by decide +kernel
theorem dX0_putPot_23 : decode cX0_putPot 23 = .ok (.getfield 24, 3) := by decide +kernel
theorem dX0_putPot_26 : decode cX0_putPot 26 = .ok (.iload_n 1, 1) := by decide +kernel
theorem dX0_putPot_27 : decode cX0_putPot 27 = .ok (.iconst 0, 1) := by decide +kernel
theorem dX0_putPot_28 : decode cX0_putPot 28 = .ok (.iastore, 1) := by decide +kernel
theorem dX0_putPot_29 : decode cX0_putPot 29 = .ok (.return_, 1) := by decide +kernel
theorem dX0_clearPot_0 : decode cX0_clearPot 0 = .ok (.aload_n 0, 1) := by decide +kernel
theorem dX0_clearPot_1 : decode cX0_clearPot 1 = .ok (.iload_n 1, 1) := by decide +kernel
theorem dX0_clearPot_2 : decode cX0_clearPot 2 = .ok (.iconst (-1), 1) := by decide +kernel
theorem dX0_clearPot_3 : decode cX0_clearPot 3 = .ok (.iconst 0, 1) := by decide +kernel
theorem dX0_clearPot_4 : decode cX0_clearPot 4 = .ok (.iconst (-1), 1) := by decide +kernel
theorem dX0_clearPot_5 : decode cX0_clearPot 5 = .ok (.invokevirtual 46, 3) := by decide +kernel
theorem dX0_clearPot_8 : decode cX0_clearPot 8 = .ok (.return_, 1) := by decide +kernel
theorem dX0_degreeOf_0 : decode cX0_degreeOf 0 = .ok (.aload_n 0, 1) := by decide +kernel
theorem dX0_degreeOf_1 : decode cX0_degreeOf 1 = .ok (.getfield 9, 3) := by decide +kernel
theorem dX0_degreeOf_4 : decode cX0_degreeOf 4 = .ok (.iload_n 1, 1) := by decide +kernel
theorem dX0_degreeOf_5 : decode cX0_degreeOf 5 = .ok (.bipush 8, 2) := by decide +kernel
theorem dX0_degreeOf_7 : decode cX0_degreeOf 7 = .ok (.imul, 1) := by decide +kernel
theorem dX0_degreeOf_8 : decode cX0_degreeOf 8 = .ok (.iload_n 2, 1) := by decide +kernel
theorem dX0_degreeOf_9 : decode cX0_degreeOf 9 = .ok (.iadd, 1) := by decide +kernel
theorem dX0_degreeOf_10 : decode cX0_degreeOf 10 = .ok (.iaload, 1) := by decide +kernel
theorem dX0_degreeOf_11 : decode cX0_degreeOf 11 = .ok (.ireturn, 1) := by decide +kernel
theorem dX0_believe_0 : decode cX0_believe 0 = .ok (.aload_n 0, 1) := by decide +kernel
theorem dX0_believe_1 : decode cX0_believe 1 = .ok (.getfield 9, 3) := by decide +kernel
theorem dX0_believe_4 : decode cX0_believe 4 = .ok (.iload_n 1, 1) := by decide +kernel
theorem dX0_believe_5 : decode cX0_believe 5 = .ok (.bipush 8, 2) := by decide +kernel
theorem dX0_believe_7 : decode cX0_believe 7 = .ok (.imul, 1) := by decide +kernel
theorem dX0_believe_8 : decode cX0_believe 8 = .ok (.iload_n 2, 1) := by decide +kernel
theorem dX0_believe_9 : decode cX0_believe 9 = .ok (.iadd, 1) := by decide +kernel
theorem dX0_believe_10 : decode cX0_believe 10 = .ok (.iconst 0, 1) := by decide +kernel
theorem dX0_believe_11 : decode cX0_believe 11 = .ok (.bipush 100, 2) := by decide +kernel
theorem dX0_believe_13 : decode cX0_believe 13 = .ok (.iload_n 3, 1) := by decide +kernel
theorem dX0_believe_14 : decode cX0_believe 14 = .ok (.invokestatic 50, 3) := by decide +kernel
theorem dX0_believe_17 : decode cX0_believe 17 = .ok (.invokestatic 56, 3) := by decide +kernel
theorem dX0_believe_20 : decode cX0_believe 20 = .ok (.iastore, 1) := by decide +kernel
theorem dX0_believe_21 : decode cX0_believe 21 = .ok (.return_, 1) := by decide +kernel
theorem dX0_sureOf_0 : decode cX0_sureOf 0 = .ok (.iconst 0, 1) := by decide +kernel
theorem dX0_sureOf_1 : decode cX0_sureOf 1 = .ok (.istore_n 2, 1) := by decide +kernel
theorem dX0_sureOf_2 : decode cX0_sureOf 2 = .ok (.iconst 0, 1) := by decide +kernel
theorem dX0_sureOf_3 : decode cX0_sureOf 3 = .ok (.istore_n 3, 1) := by decide +kernel
theorem dX0_sureOf_4 : decode cX0_sureOf 4 = .ok (.iload_n 3, 1) := by decide +kernel
theorem dX0_sureOf_5 : decode cX0_sureOf 5 = .ok (.bipush 8, 2) := by decide +kernel
theorem dX0_sureOf_7 : decode cX0_sureOf 7 = .ok (.if_icmp .ge 31, 3) := by decide +kernel
theorem dX0_sureOf_10 : decode cX0_sureOf 10 = .ok (.aload_n 0, 1) := by decide +kernel
theorem dX0_sureOf_11 : decode cX0_sureOf 11 = .ok (.getfield 9, 3) := by decide +kernel
theorem dX0_sureOf_14 : decode cX0_sureOf 14 = .ok (.iload_n 1, 1) := by decide +kernel
theorem dX0_sureOf_15 : decode cX0_sureOf 15 = .ok (.bipush 8, 2) := by decide +kernel
theorem dX0_sureOf_17 : decode cX0_sureOf 17 = .ok (.imul, 1) := by decide +kernel
theorem dX0_sureOf_18 : decode cX0_sureOf 18 = .ok (.iload_n 3, 1) := by decide +kernel
theorem dX0_sureOf_19 : decode cX0_sureOf 19 = .ok (.iadd, 1) := by decide +kernel
theorem dX0_sureOf_20 : decode cX0_sureOf 20 = .ok (.iaload, 1) := by decide +kernel
theorem dX0_sureOf_21 : decode cX0_sureOf 21 = .ok (.bipush 90, 2) := by decide +kernel
theorem dX0_sureOf_23 : decode cX0_sureOf 23 = .ok (.if_icmp .lt 9, 3) := by decide +kernel
theorem dX0_sureOf_26 : decode cX0_sureOf 26 = .ok (.iload_n 2, 1) := by decide +kernel
theorem dX0_sureOf_27 : decode cX0_sureOf 27 = .ok (.iconst 1, 1) := by decide +kernel
theorem dX0_sureOf_28 : decode cX0_sureOf 28 = .ok (.iload_n 3, 1) := by decide +kernel
theorem dX0_sureOf_29 : decode cX0_sureOf 29 = .ok (.ishl, 1) := by decide +kernel
theorem dX0_sureOf_30 : decode cX0_sureOf 30 = .ok (.ior, 1) := by decide +kernel
theorem dX0_sureOf_31 : decode cX0_sureOf 31 = .ok (.istore_n 2, 1) := by decide +kernel
theorem dX0_sureOf_32 : decode cX0_sureOf 32 = .ok (.iinc 3 1, 3) := by decide +kernel
theorem dX0_sureOf_35 : decode cX0_sureOf 35 = .ok (.goto (-31), 3) := by decide +kernel
theorem dX0_sureOf_38 : decode cX0_sureOf 38 = .ok (.iload_n 2, 1) := by decide +kernel
theorem dX0_sureOf_39 : decode cX0_sureOf 39 = .ok (.ireturn, 1) := by decide +kernel
theorem dX0_sures_0 : decode cX0_sures 0 = .ok (.aload_n 0, 1) := by decide +kernel
theorem dX0_sures_1 : decode cX0_sures 1 = .ok (.iload_n 1, 1) := by decide +kernel
theorem dX0_sures_2 : decode cX0_sures 2 = .ok (.invokevirtual 59, 3) := by decide +kernel
theorem dX0_sures_5 : decode cX0_sures 5 = .ok (.invokestatic 63, 3) := by decide +kernel
theorem dX0_sures_8 : decode cX0_sures 8 = .ok (.ireturn, 1) := by decide +kernel
theorem dX0_sumOf_0 : decode cX0_sumOf 0 = .ok (.iconst 0, 1) := by decide +kernel
theorem dX0_sumOf_1 : decode cX0_sumOf 1 = .ok (.istore_n 3, 1) := by decide +kernel
theorem dX0_sumOf_2 : decode cX0_sumOf 2 = .ok (.iconst 0, 1) := by decide +kernel
theorem dX0_sumOf_3 : decode cX0_sumOf 3 = .ok (.istore 4, 2) := by decide +kernel
theorem dX0_sumOf_5 : decode cX0_sumOf 5 = .ok (.iload 4, 2) := by decide +kernel
theorem dX0_sumOf_7 : decode cX0_sumOf 7 = .ok (.bipush 8, 2) := by decide +kernel
theorem dX0_sumOf_9 : decode cX0_sumOf 9 = .ok (.if_icmp .ge 33, 3) := by decide +kernel
theorem dX0_sumOf_12 : decode cX0_sumOf 12 = .ok (.iload_n 2, 1) := by decide +kernel
theorem dX0_sumOf_13 : decode cX0_sumOf 13 = .ok (.iload 4, 2) := by decide +kernel
theorem dX0_sumOf_15 : decode cX0_sumOf 15 = .ok (.ishr, 1) := by decide +kernel
theorem dX0_sumOf_16 : decode cX0_sumOf 16 = .ok (.iconst 1, 1) := by decide +kernel
theorem dX0_sumOf_17 : decode cX0_sumOf 17 = .ok (.iand, 1) := by decide +kernel
theorem dX0_sumOf_18 : decode cX0_sumOf 18 = .ok (.ifCond .eq 18, 3) := by decide +kernel
theorem dX0_sumOf_21 : decode cX0_sumOf 21 = .ok (.iload_n 3, 1) := by decide +kernel
theorem dX0_sumOf_22 : decode cX0_sumOf 22 = .ok (.aload_n 0, 1) := by decide +kernel
theorem dX0_sumOf_23 : decode cX0_sumOf 23 = .ok (.getfield 9, 3) := by decide +kernel
theorem dX0_sumOf_26 : decode cX0_sumOf 26 = .ok (.iload_n 1, 1) := by decide +kernel
theorem dX0_sumOf_27 : decode cX0_sumOf 27 = .ok (.bipush 8, 2) := by decide +kernel
theorem dX0_sumOf_29 : decode cX0_sumOf 29 = .ok (.imul, 1) := by decide +kernel
theorem dX0_sumOf_30 : decode cX0_sumOf 30 = .ok (.iload 4, 2) := by decide +kernel
theorem dX0_sumOf_32 : decode cX0_sumOf 32 = .ok (.iadd, 1) := by decide +kernel
theorem dX0_sumOf_33 : decode cX0_sumOf 33 = .ok (.iaload, 1) := by decide +kernel
theorem dX0_sumOf_34 : decode cX0_sumOf 34 = .ok (.iadd, 1) := by decide +kernel
theorem dX0_sumOf_35 : decode cX0_sumOf 35 = .ok (.istore_n 3, 1) := by decide +kernel
theorem dX0_sumOf_36 : decode cX0_sumOf 36 = .ok (.iinc 4 1, 3) := by decide +kernel
theorem dX0_sumOf_39 : decode cX0_sumOf 39 = .ok (.goto (-34), 3) := by decide +kernel
theorem dX0_sumOf_42 : decode cX0_sumOf 42 = .ok (.iload_n 3, 1) := by decide +kernel
theorem dX0_sumOf_43 : decode cX0_sumOf 43 = .ok (.ireturn, 1) := by decide +kernel
theorem dX1_init_0 : decode cX1_init 0 = .ok (.aload_n 0, 1) := by decide +kernel
theorem dX1_init_1 : decode cX1_init 1 = .ok (.invokespecial 3, 3) := by decide +kernel
theorem dX1_init_4 : decode cX1_init 4 = .ok (.aload_n 0, 1) := by decide +kernel
theorem dX1_init_5 : decode cX1_init 5 = .ok (.iconst 3, 1) := by decide +kernel
theorem dX1_init_6 : decode cX1_init 6 = .ok (.putfield 9, 3) := by decide +kernel
theorem dX1_init_9 : decode cX1_init 9 = .ok (.aload_n 0, 1) := by decide +kernel
theorem dX1_init_10 : decode cX1_init 10 = .ok (.bipush 8, 2) := by decide +kernel
theorem dX1_init_12 : decode cX1_init 12 = .ok (.newarray .int, 2) := by decide +kernel
theorem dX1_init_14 : decode cX1_init 14 = .ok (.putfield 15, 3) := by decide +kernel
theorem dX1_init_17 : decode cX1_init 17 = .ok (.aload_n 0, 1) := by decide +kernel
theorem dX1_init_18 : decode cX1_init 18 = .ok (.bipush 8, 2) := by decide +kernel
theorem dX1_init_20 : decode cX1_init 20 = .ok (.newarray .int, 2) := by decide +kernel
theorem dX1_init_22 : decode cX1_init 22 = .ok (.putfield 19, 3) := by decide +kernel
theorem dX1_init_25 : decode cX1_init 25 = .ok (.aload_n 0, 1) := by decide +kernel
theorem dX1_init_26 : decode cX1_init 26 = .ok (.new 22, 3) := by decide +kernel
theorem dX1_init_29 : decode cX1_init 29 = .ok (.dup, 1) := by decide +kernel
theorem dX1_init_30 : decode cX1_init 30 = .ok (.bipush 16, 2) := by decide +kernel
theorem dX1_init_32 : decode cX1_init 32 = .ok (.iconst 0, 1) := by decide +kernel
theorem dX1_init_33 : decode cX1_init 33 = .ok (.invokespecial 24, 3) := by decide +kernel
theorem dX1_init_36 : decode cX1_init 36 = .ok (.putfield 27, 3) := by decide +kernel
theorem dX1_init_39 : decode cX1_init 39 = .ok (.aload_n 0, 1) := by decide +kernel
theorem dX1_init_40 : decode cX1_init 40 = .ok (.new 22, 3) := by decide +kernel
theorem dX1_init_43 : decode cX1_init 43 = .ok (.dup, 1) := by decide +kernel
theorem dX1_init_44 : decode cX1_init 44 = .ok (.bipush 16, 2) := by decide +kernel
theorem dX1_init_46 : decode cX1_init 46 = .ok (.sipush 400, 3) := by decide +kernel
theorem dX1_init_49 : decode cX1_init 49 = .ok (.invokespecial 24, 3) := by decide +kernel
theorem dX1_init_52 : decode cX1_init 52 = .ok (.putfield 31, 3) := by decide +kernel
theorem dX1_init_55 : decode cX1_init 55 = .ok (.aload_n 0, 1) := by decide +kernel
theorem dX1_init_56 : decode cX1_init 56 = .ok (.new 22, 3) := by decide +kernel
theorem dX1_init_59 : decode cX1_init 59 = .ok (.dup, 1) := by decide +kernel
theorem dX1_init_60 : decode cX1_init 60 = .ok (.bipush 12, 2) := by decide +kernel
theorem dX1_init_62 : decode cX1_init 62 = .ok (.iconst 0, 1) := by decide +kernel
theorem dX1_init_63 : decode cX1_init 63 = .ok (.invokespecial 24, 3) := by decide +kernel
theorem dX1_init_66 : decode cX1_init 66 = .ok (.putfield 34, 3) := by decide +kernel
theorem dX1_init_69 : decode cX1_init 69 = .ok (.aload_n 0, 1) := by decide +kernel
theorem dX1_init_70 : decode cX1_init 70 = .ok (.new 22, 3) := by decide +kernel
theorem dX1_init_73 : decode cX1_init 73 = .ok (.dup, 1) := by decide +kernel
theorem dX1_init_74 : decode cX1_init 74 = .ok (.bipush 16, 2) := by decide +kernel
theorem dX1_init_76 : decode cX1_init 76 = .ok (.iconst 0, 1) := by decide +kernel
theorem dX1_init_77 : decode cX1_init 77 = .ok (.invokespecial 24, 3) := by decide +kernel
theorem dX1_init_80 : decode cX1_init 80 = .ok (.putfield 37, 3) := by decide +kernel
theorem dX1_init_83 : decode cX1_init 83 = .ok (.aload_n 0, 1) := by decide +kernel
theorem dX1_init_84 : decode cX1_init 84 = .ok (.bipush 36, 2) := by decide +kernel
theorem dX1_init_86 : decode cX1_init 86 = .ok (.newarray .int, 2) := by decide +kernel
theorem dX1_init_88 : decode cX1_init 88 = .ok (.putfield 40, 3) := by decide +kernel
theorem dX1_init_91 : decode cX1_init 91 = .ok (.aload_n 0, 1) := by decide +kernel
theorem dX1_init_92 : decode cX1_init 92 = .ok (.sipush 600, 3) := by decide +kernel
theorem dX1_init_95 : decode cX1_init 95 = .ok (.newarray .int, 2) := by decide +kernel
theorem dX1_init_97 : decode cX1_init 97 = .ok (.putfield 43, 3) := by decide +kernel
theorem dX1_init_100 : decode cX1_init 100 = .ok (.aload_n 0, 1) := by decide +kernel
theorem dX1_init_101 : decode cX1_init 101 = .ok (.new 46, 3) := by decide +kernel
theorem dX1_init_104 : decode cX1_init 104 = .ok (.dup, 1) := by decide +kernel
theorem dX1_init_105 : decode cX1_init 105 = .ok (.invokespecial 48, 3) := by decide +kernel
theorem dX1_init_108 : decode cX1_init 108 = .ok (.putfield 49, 3) := by decide +kernel
theorem dX1_init_111 : decode cX1_init 111 = .ok (.return_, 1) := by decide +kernel
theorem dX1_copyFrom_0 : decode cX1_copyFrom 0 = .ok (.aload_n 0, 1) := by decide +kernel
theorem dX1_copyFrom_1 : decode cX1_copyFrom 1 = .ok (.aload_n 1, 1) := by decide +kernel
theorem dX1_copyFrom_2 : decode cX1_copyFrom 2 = .ok (.getfield 53, 3) := by decide +kernel
theorem dX1_copyFrom_5 : decode cX1_copyFrom 5 = .ok (.putfield 53, 3) := by decide +kernel
theorem dX1_copyFrom_8 : decode cX1_copyFrom 8 = .ok (.aload_n 0, 1) := by decide +kernel
theorem dX1_copyFrom_9 : decode cX1_copyFrom 9 = .ok (.aload_n 1, 1) := by decide +kernel
theorem dX1_copyFrom_10 : decode cX1_copyFrom 10 = .ok (.getfield 9, 3) := by decide +kernel
theorem dX1_copyFrom_13 : decode cX1_copyFrom 13 = .ok (.putfield 9, 3) := by decide +kernel
theorem dX1_copyFrom_16 : decode cX1_copyFrom 16 = .ok (.aload_n 0, 1) := by decide +kernel
theorem dX1_copyFrom_17 : decode cX1_copyFrom 17 = .ok (.aload_n 1, 1) := by decide +kernel
theorem dX1_copyFrom_18 : decode cX1_copyFrom 18 = .ok (.getfield 56, 3) := by decide +kernel
theorem dX1_copyFrom_21 : decode cX1_copyFrom 21 = .ok (.putfield 56, 3) := by decide +kernel
theorem dX1_copyFrom_24 : decode cX1_copyFrom 24 = .ok (.aload_n 0, 1) := by decide +kernel
theorem dX1_copyFrom_25 : decode cX1_copyFrom 25 = .ok (.aload_n 1, 1) := by decide +kernel
theorem dX1_copyFrom_26 : decode cX1_copyFrom 26 = .ok (.getfield 59, 3) := by decide +kernel
theorem dX1_copyFrom_29 : decode cX1_copyFrom 29 = .ok (.putfield 59, 3) := by decide +kernel
theorem dX1_copyFrom_32 : decode cX1_copyFrom 32 = .ok (.aload_n 0, 1) := by decide +kernel
theorem dX1_copyFrom_33 : decode cX1_copyFrom 33 = .ok (.aload_n 1, 1) := by decide +kernel
theorem dX1_copyFrom_34 : decode cX1_copyFrom 34 = .ok (.getfield 62, 3) := by decide +kernel
theorem dX1_copyFrom_37 : decode cX1_copyFrom 37 = .ok (.putfield 62, 3) := by decide +kernel
theorem dX1_copyFrom_40 : decode cX1_copyFrom 40 = .ok (.aload_n 1, 1) := by decide +kernel
theorem dX1_copyFrom_41 : decode cX1_copyFrom 41 = .ok (.getfield 15, 3) := by decide +kernel
theorem dX1_copyFrom_44 : decode cX1_copyFrom 44 = .ok (.iconst 0, 1) := by decide +kernel
theorem dX1_copyFrom_45 : decode cX1_copyFrom 45 = .ok (.aload_n 0, 1) := by decide +kernel
theorem dX1_copyFrom_46 : decode cX1_copyFrom 46 = .ok (.getfield 15, 3) := by decide +kernel
theorem dX1_copyFrom_49 : decode cX1_copyFrom 49 = .ok (.iconst 0, 1) := by decide +kernel
theorem dX1_copyFrom_50 : decode cX1_copyFrom 50 = .ok (.bipush 8, 2) := by decide +kernel
theorem dX1_copyFrom_52 : decode cX1_copyFrom 52 = .ok (.invokestatic 65, 3) := by decide +kernel
theorem dX1_copyFrom_55 : decode cX1_copyFrom 55 = .ok (.aload_n 1, 1) := by decide +kernel
theorem dX1_copyFrom_56 : decode cX1_copyFrom 56 = .ok (.getfield 19, 3) := by decide +kernel
theorem dX1_copyFrom_59 : decode cX1_copyFrom 59 = .ok (.iconst 0, 1) := by decide +kernel
theorem dX1_copyFrom_60 : decode cX1_copyFrom 60 = .ok (.aload_n 0, 1) := by decide +kernel
theorem dX1_copyFrom_61 : decode cX1_copyFrom 61 = .ok (.getfield 19, 3) := by decide +kernel
theorem dX1_copyFrom_64 : decode cX1_copyFrom 64 = .ok (.iconst 0, 1) := by decide +kernel
theorem dX1_copyFrom_65 : decode cX1_copyFrom 65 = .ok (.bipush 8, 2) := by decide +kernel
theorem dX1_copyFrom_67 : decode cX1_copyFrom 67 = .ok (.invokestatic 65, 3) := by decide +kernel
theorem dX1_copyFrom_70 : decode cX1_copyFrom 70 = .ok (.aload_n 1, 1) := by decide +kernel
theorem dX1_copyFrom_71 : decode cX1_copyFrom 71 = .ok (.getfield 40, 3) := by decide +kernel
theorem dX1_copyFrom_74 : decode cX1_copyFrom 74 = .ok (.iconst 0, 1) := by decide +kernel
theorem dX1_copyFrom_75 : decode cX1_copyFrom 75 = .ok (.aload_n 0, 1) := by decide +kernel
theorem dX1_copyFrom_76 : decode cX1_copyFrom 76 = .ok (.getfield 40, 3) := by decide +kernel
theorem dX1_copyFrom_79 : decode cX1_copyFrom 79 = .ok (.iconst 0, 1) := by decide +kernel
theorem dX1_copyFrom_80 : decode cX1_copyFrom 80 = .ok (.aload_n 0, 1) := by decide +kernel
theorem dX1_copyFrom_81 : decode cX1_copyFrom 81 = .ok (.getfield 40, 3) := by decide +kernel
theorem dX1_copyFrom_84 : decode cX1_copyFrom 84 = .ok (.arraylength, 1) := by decide +kernel
theorem dX1_copyFrom_85 : decode cX1_copyFrom 85 = .ok (.invokestatic 65, 3) := by decide +kernel
theorem dX1_copyFrom_88 : decode cX1_copyFrom 88 = .ok (.aload_n 1, 1) := by decide +kernel
theorem dX1_copyFrom_89 : decode cX1_copyFrom 89 = .ok (.getfield 43, 3) := by decide +kernel
theorem dX1_copyFrom_92 : decode cX1_copyFrom 92 = .ok (.iconst 0, 1) := by decide +kernel
theorem dX1_copyFrom_93 : decode cX1_copyFrom 93 = .ok (.aload_n 0, 1) := by decide +kernel
theorem dX1_copyFrom_94 : decode cX1_copyFrom 94 = .ok (.getfield 43, 3) := by decide +kernel
theorem dX1_copyFrom_97 : decode cX1_copyFrom 97 = .ok (.iconst 0, 1) := by decide +kernel
theorem dX1_copyFrom_98 : decode cX1_copyFrom 98 = .ok (.aload_n 0, 1) := by decide +kernel
theorem dX1_copyFrom_99 : decode cX1_copyFrom 99 = .ok (.getfield 43, 3) := by decide +kernel
theorem dX1_copyFrom_102 : decode cX1_copyFrom 102 = .ok (.arraylength, 1) := by decide +kernel
theorem dX1_copyFrom_103 : decode cX1_copyFrom 103 = .ok (.invokestatic 65, 3) := by decide +kernel
theorem dX1_copyFrom_106 : decode cX1_copyFrom 106 = .ok (.aload_n 0, 1) := by decide +kernel
theorem dX1_copyFrom_107 : decode cX1_copyFrom 107 = .ok (.getfield 27, 3) := by decide +kernel
theorem dX1_copyFrom_110 : decode cX1_copyFrom 110 = .ok (.aload_n 1, 1) := by decide +kernel
theorem dX1_copyFrom_111 : decode cX1_copyFrom 111 = .ok (.getfield 27, 3) := by decide +kernel
theorem dX1_copyFrom_114 : decode cX1_copyFrom 114 = .ok (.invokevirtual 71, 3) := by decide +kernel
theorem dX1_copyFrom_117 : decode cX1_copyFrom 117 = .ok (.aload_n 0, 1) := by decide +kernel
theorem dX1_copyFrom_118 : decode cX1_copyFrom 118 = .ok (.getfield 31, 3) := by decide +kernel
theorem dX1_copyFrom_121 : decode cX1_copyFrom 121 = .ok (.aload_n 1, 1) := by decide +kernel
theorem dX1_copyFrom_122 : decode cX1_copyFrom 122 = .ok (.getfield 31, 3) := by decide +kernel
theorem dX1_copyFrom_125 : decode cX1_copyFrom 125 = .ok (.invokevirtual 71, 3) := by decide +kernel
theorem dX1_copyFrom_128 : decode cX1_copyFrom 128 = .ok (.aload_n 0, 1) := by decide +kernel
theorem dX1_copyFrom_129 : decode cX1_copyFrom 129 = .ok (.getfield 34, 3) := by decide +kernel
theorem dX1_copyFrom_132 : decode cX1_copyFrom 132 = .ok (.aload_n 1, 1) := by decide +kernel
theorem dX1_copyFrom_133 : decode cX1_copyFrom 133 = .ok (.getfield 34, 3) := by decide +kernel
theorem dX1_copyFrom_136 : decode cX1_copyFrom 136 = .ok (.invokevirtual 71, 3) := by decide +kernel
theorem dX1_copyFrom_139 : decode cX1_copyFrom 139 = .ok (.aload_n 0, 1) := by decide +kernel
theorem dX1_copyFrom_140 : decode cX1_copyFrom 140 = .ok (.getfield 37, 3) := by decide +kernel
theorem dX1_copyFrom_143 : decode cX1_copyFrom 143 = .ok (.aload_n 1, 1) := by decide +kernel
theorem dX1_copyFrom_144 : decode cX1_copyFrom 144 = .ok (.getfield 37, 3) := by decide +kernel
theorem dX1_copyFrom_147 : decode cX1_copyFrom 147 = .ok (.invokevirtual 71, 3) := by decide +kernel
theorem dX1_copyFrom_150 : decode cX1_copyFrom 150 = .ok (.aload_n 0, 1) := by decide +kernel
theorem dX1_copyFrom_151 : decode cX1_copyFrom 151 = .ok (.getfield 49, 3) := by decide +kernel
theorem dX1_copyFrom_154 : decode cX1_copyFrom 154 = .ok (.aload_n 1, 1) := by decide +kernel
theorem dX1_copyFrom_155 : decode cX1_copyFrom 155 = .ok (.getfield 49, 3) := by decide +kernel
theorem dX1_copyFrom_158 : decode cX1_copyFrom 158 = .ok (.invokevirtual 75, 3) := by decide +kernel
theorem dX1_copyFrom_161 : decode cX1_copyFrom 161 = .ok (.return_, 1) := by decide +kernel
theorem dX1_told_0 : decode cX1_told 0 = .ok (.iload_n 1, 1) := by decide +kernel
theorem dX1_told_1 : decode cX1_told 1 = .ok (.ifCond .ne 8, 3) := by decide +kernel
theorem dX1_told_4 : decode cX1_told 4 = .ok (.aload_n 0, 1) := by decide +kernel
theorem dX1_told_5 : decode cX1_told 5 = .ok (.getfield 27, 3) := by decide +kernel
theorem dX1_told_8 : decode cX1_told 8 = .ok (.areturn, 1) := by decide +kernel
theorem dX1_told_9 : decode cX1_told 9 = .ok (.iload_n 1, 1) := by decide +kernel
theorem dX1_told_10 : decode cX1_told 10 = .ok (.iconst 1, 1) := by decide +kernel
theorem dX1_told_11 : decode cX1_told 11 = .ok (.if_icmp .ne 8, 3) := by decide +kernel
theorem dX1_told_14 : decode cX1_told 14 = .ok (.aload_n 0, 1) := by decide +kernel
theorem dX1_told_15 : decode cX1_told 15 = .ok (.getfield 31, 3) := by decide +kernel
theorem dX1_told_18 : decode cX1_told 18 = .ok (.areturn, 1) := by decide +kernel
theorem dX1_told_19 : decode cX1_told 19 = .ok (.iload_n 1, 1) := by decide +kernel
theorem dX1_told_20 : decode cX1_told 20 = .ok (.iconst 2, 1) := by decide +kernel
theorem dX1_told_21 : decode cX1_told 21 = .ok (.if_icmp .ne 10, 3) := by decide +kernel
theorem dX1_told_24 : decode cX1_told 24 = .ok (.aload_n 0, 1) := by decide +kernel
theorem dX1_told_25 : decode cX1_told 25 = .ok (.getfield 34, 3) := by decide +kernel
theorem dX1_told_28 : decode cX1_told 28 = .ok (.goto 7, 3) := by decide +kernel
theorem dX1_told_31 : decode cX1_told 31 = .ok (.aload_n 0, 1) := by decide +kernel
theorem dX1_told_32 : decode cX1_told 32 = .ok (.getfield 37, 3) := by decide +kernel
theorem dX1_told_35 : decode cX1_told 35 = .ok (.areturn, 1) := by decide +kernel
theorem dX1_join_0 : decode cX1_join 0 = .ok (.iload_n 3, 1) := by decide +kernel
theorem dX1_join_1 : decode cX1_join 1 = .ok (.ifCond .eq 30, 3) := by decide +kernel
theorem dX1_join_4 : decode cX1_join 4 = .ok (.aload_n 0, 1) := by decide +kernel
theorem dX1_join_5 : decode cX1_join 5 = .ok (.getfield 19, 3) := by decide +kernel
theorem dX1_join_8 : decode cX1_join 8 = .ok (.iload_n 1, 1) := by decide +kernel
theorem dX1_join_9 : decode cX1_join 9 = .ok (.dup2, 1) := by decide +kernel
theorem dX1_join_10 : decode cX1_join 10 = .ok (.iaload, 1) := by decide +kernel
theorem dX1_join_11 : decode cX1_join 11 = .ok (.iconst 1, 1) := by decide +kernel
theorem dX1_join_12 : decode cX1_join 12 = .ok (.iload_n 2, 1) := by decide +kernel
theorem dX1_join_13 : decode cX1_join 13 = .ok (.ishl, 1) := by decide +kernel
theorem dX1_join_14 : decode cX1_join 14 = .ok (.ior, 1) := by decide +kernel
theorem dX1_join_15 : decode cX1_join 15 = .ok (.iastore, 1) := by decide +kernel
theorem dX1_join_16 : decode cX1_join 16 = .ok (.aload_n 0, 1) := by decide +kernel
theorem dX1_join_17 : decode cX1_join 17 = .ok (.getfield 19, 3) := by decide +kernel
theorem dX1_join_20 : decode cX1_join 20 = .ok (.iload_n 2, 1) := by decide +kernel
theorem dX1_join_21 : decode cX1_join 21 = .ok (.dup2, 1) := by decide +kernel
theorem dX1_join_22 : decode cX1_join 22 = .ok (.iaload, 1) := by decide +kernel
theorem dX1_join_23 : decode cX1_join 23 = .ok (.iconst 1, 1) := by decide +kernel
theorem dX1_join_24 : decode cX1_join 24 = .ok (.iload_n 1, 1) := by decide +kernel
theorem dX1_join_25 : decode cX1_join 25 = .ok (.ishl, 1) := by decide +kernel
theorem dX1_join_26 : decode cX1_join 26 = .ok (.ior, 1) := by decide +kernel
theorem dX1_join_27 : decode cX1_join 27 = .ok (.iastore, 1) := by decide +kernel
theorem dX1_join_28 : decode cX1_join 28 = .ok (.goto 31, 3) := by decide +kernel
theorem dX1_join_31 : decode cX1_join 31 = .ok (.aload_n 0, 1) := by decide +kernel
theorem dX1_join_32 : decode cX1_join 32 = .ok (.getfield 19, 3) := by decide +kernel
theorem dX1_join_35 : decode cX1_join 35 = .ok (.iload_n 1, 1) := by decide +kernel
theorem dX1_join_36 : decode cX1_join 36 = .ok (.dup2, 1) := by decide +kernel
theorem dX1_join_37 : decode cX1_join 37 = .ok (.iaload, 1) := by decide +kernel
theorem dX1_join_38 : decode cX1_join 38 = .ok (.iconst 1, 1) := by decide +kernel
theorem dX1_join_39 : decode cX1_join 39 = .ok (.iload_n 2, 1) := by decide +kernel
theorem dX1_join_40 : decode cX1_join 40 = .ok (.ishl, 1) := by decide +kernel
theorem dX1_join_41 : decode cX1_join 41 = .ok (.iconst (-1), 1) := by decide +kernel
theorem dX1_join_42 : decode cX1_join 42 = .ok (.ixor, 1) := by decide +kernel
theorem dX1_join_43 : decode cX1_join 43 = .ok (.iand, 1) := by decide +kernel
theorem dX1_join_44 : decode cX1_join 44 = .ok (.iastore, 1) := by decide +kernel
theorem dX1_join_45 : decode cX1_join 45 = .ok (.aload_n 0, 1) := by decide +kernel
theorem dX1_join_46 : decode cX1_join 46 = .ok (.getfield 19, 3) := by decide +kernel
theorem dX1_join_49 : decode cX1_join 49 = .ok (.iload_n 2, 1) := by decide +kernel
theorem dX1_join_50 : decode cX1_join 50 = .ok (.dup2, 1) := by decide +kernel
theorem dX1_join_51 : decode cX1_join 51 = .ok (.iaload, 1) := by decide +kernel
theorem dX1_join_52 : decode cX1_join 52 = .ok (.iconst 1, 1) := by decide +kernel
theorem dX1_join_53 : decode cX1_join 53 = .ok (.iload_n 1, 1) := by decide +kernel
theorem dX1_join_54 : decode cX1_join 54 = .ok (.ishl, 1) := by decide +kernel
theorem dX1_join_55 : decode cX1_join 55 = .ok (.iconst (-1), 1) := by decide +kernel
theorem dX1_join_56 : decode cX1_join 56 = .ok (.ixor, 1) := by decide +kernel
theorem dX1_join_57 : decode cX1_join 57 = .ok (.iand, 1) := by decide +kernel
theorem dX1_join_58 : decode cX1_join 58 = .ok (.iastore, 1) := by decide +kernel
theorem dX1_join_59 : decode cX1_join 59 = .ok (.return_, 1) := by decide +kernel
theorem dX1_heard_0 : decode cX1_heard 0 = .ok (.aload_n 0, 1) := by decide +kernel
theorem dX1_heard_1 : decode cX1_heard 1 = .ok (.getfield 62, 3) := by decide +kernel
theorem dX1_heard_4 : decode cX1_heard 4 = .ok (.iconst 3, 1) := by decide +kernel
theorem dX1_heard_5 : decode cX1_heard 5 = .ok (.imul, 1) := by decide +kernel
theorem dX1_heard_6 : decode cX1_heard 6 = .ok (.istore 4, 2) := by decide +kernel
theorem dX1_heard_8 : decode cX1_heard 8 = .ok (.iload 4, 2) := by decide +kernel
theorem dX1_heard_10 : decode cX1_heard 10 = .ok (.iconst 3, 1) := by decide +kernel
theorem dX1_heard_11 : decode cX1_heard 11 = .ok (.iadd, 1) := by decide +kernel
theorem dX1_heard_12 : decode cX1_heard 12 = .ok (.aload_n 0, 1) := by decide +kernel
theorem dX1_heard_13 : decode cX1_heard 13 = .ok (.getfield 40, 3) := by decide +kernel
theorem dX1_heard_16 : decode cX1_heard 16 = .ok (.arraylength, 1) := by decide +kernel
theorem dX1_heard_17 : decode cX1_heard 17 = .ok (.if_icmp .le 4, 3) := by decide +kernel
theorem dX1_heard_20 : decode cX1_heard 20 = .ok (.return_, 1) := by decide +kernel
theorem dX1_heard_21 : decode cX1_heard 21 = .ok (.aload_n 0, 1) := by decide +kernel
theorem dX1_heard_22 : decode cX1_heard 22 = .ok (.getfield 40, 3) := by decide +kernel
theorem dX1_heard_25 : decode cX1_heard 25 = .ok (.iload 4, 2) := by decide +kernel
theorem dX1_heard_27 : decode cX1_heard 27 = .ok (.iload_n 1, 1) := by decide +kernel
theorem dX1_heard_28 : decode cX1_heard 28 = .ok (.iastore, 1) := by decide +kernel
theorem dX1_heard_29 : decode cX1_heard 29 = .ok (.aload_n 0, 1) := by decide +kernel
theorem dX1_heard_30 : decode cX1_heard 30 = .ok (.getfield 40, 3) := by decide +kernel
theorem dX1_heard_33 : decode cX1_heard 33 = .ok (.iload 4, 2) := by decide +kernel
theorem dX1_heard_35 : decode cX1_heard 35 = .ok (.iconst 1, 1) := by decide +kernel
theorem dX1_heard_36 : decode cX1_heard 36 = .ok (.iadd, 1) := by decide +kernel
theorem dX1_heard_37 : decode cX1_heard 37 = .ok (.iload_n 2, 1) := by decide +kernel
theorem dX1_heard_38 : decode cX1_heard 38 = .ok (.iastore, 1) := by decide +kernel
theorem dX1_heard_39 : decode cX1_heard 39 = .ok (.aload_n 0, 1) := by decide +kernel
theorem dX1_heard_40 : decode cX1_heard 40 = .ok (.getfield 40, 3) := by decide +kernel
theorem dX1_heard_43 : decode cX1_heard 43 = .ok (.iload 4, 2) := by decide +kernel
theorem dX1_heard_45 : decode cX1_heard 45 = .ok (.iconst 2, 1) := by decide +kernel
theorem dX1_heard_46 : decode cX1_heard 46 = .ok (.iadd, 1) := by decide +kernel
theorem dX1_heard_47 : decode cX1_heard 47 = .ok (.iload_n 3, 1) := by decide +kernel
theorem dX1_heard_48 : decode cX1_heard 48 = .ok (.iastore, 1) := by decide +kernel
theorem dX1_heard_49 : decode cX1_heard 49 = .ok (.aload_n 0, 1) := by decide +kernel
theorem dX1_heard_50 : decode cX1_heard 50 = .ok (.dup, 1) := by decide +kernel
theorem dX1_heard_51 : decode cX1_heard 51 = .ok (.getfield 62, 3) := by decide +kernel
theorem dX1_heard_54 : decode cX1_heard 54 = .ok (.iconst 1, 1) := by decide +kernel
theorem dX1_heard_55 : decode cX1_heard 55 = .ok (.iadd, 1) := by decide +kernel
theorem dX1_heard_56 : decode cX1_heard 56 = .ok (.putfield 62, 3) := by decide +kernel
theorem dX1_heard_59 : decode cX1_heard 59 = .ok (.return_, 1) := by decide +kernel
theorem dX1_pots_0 : decode cX1_pots 0 = .ok (.iconst 0, 1) := by decide +kernel
theorem dX1_pots_1 : decode cX1_pots 1 = .ok (.istore_n 1, 1) := by decide +kernel
theorem dX1_pots_2 : decode cX1_pots 2 = .ok (.iconst 0, 1) := by decide +kernel
theorem dX1_pots_3 : decode cX1_pots 3 = .ok (.istore_n 2, 1) := by decide +kernel
theorem dX1_pots_4 : decode cX1_pots 4 = .ok (.iload_n 2, 1) := by decide +kernel
theorem dX1_pots_5 : decode cX1_pots 5 = .ok (.aload_n 0, 1) := by decide +kernel
theorem dX1_pots_6 : decode cX1_pots 6 = .ok (.getfield 53, 3) := by decide +kernel
theorem dX1_pots_9 : decode cX1_pots 9 = .ok (.if_icmp .ge 23, 3) := by decide +kernel
theorem dX1_pots_12 : decode cX1_pots 12 = .ok (.aload_n 0, 1) := by decide +kernel
theorem dX1_pots_13 : decode cX1_pots 13 = .ok (.getfield 49, 3) := by decide +kernel
theorem dX1_pots_16 : decode cX1_pots 16 = .ok (.iload_n 2, 1) := by decide +kernel
theorem dX1_pots_17 : decode cX1_pots 17 = .ok (.invokevirtual 78, 3) := by decide +kernel
theorem dX1_pots_20 : decode cX1_pots 20 = .ok (.ifCond .eq 6, 3) := by decide +kernel
theorem dX1_pots_23 : decode cX1_pots 23 = .ok (.iinc 1 1, 3) := by decide +kernel
theorem dX1_pots_26 : decode cX1_pots 26 = .ok (.iinc 2 1, 3) := by decide +kernel
theorem dX1_pots_29 : decode cX1_pots 29 = .ok (.goto (-25), 3) := by decide +kernel
theorem dX1_pots_32 : decode cX1_pots 32 = .ok (.iload_n 1, 1) := by decide +kernel
theorem dX1_pots_33 : decode cX1_pots 33 = .ok (.ireturn, 1) := by decide +kernel
theorem dX2_init_0 : decode cX2_init 0 = .ok (.aload_n 0, 1) := by decide +kernel
theorem dX2_init_1 : decode cX2_init 1 = .ok (.invokespecial 3, 3) := by decide +kernel
theorem dX2_init_4 : decode cX2_init 4 = .ok (.aload_n 0, 1) := by decide +kernel
theorem dX2_init_5 : decode cX2_init 5 = .ok (.bipush 8, 2) := by decide +kernel
theorem dX2_init_7 : decode cX2_init 7 = .ok (.newarray .int, 2) := by decide +kernel
theorem dX2_init_9 : decode cX2_init 9 = .ok (.putfield 9, 3) := by decide +kernel
theorem dX2_init_12 : decode cX2_init 12 = .ok (.aload_n 0, 1) := by decide +kernel
theorem dX2_init_13 : decode cX2_init 13 = .ok (.bipush 8, 2) := by decide +kernel
theorem dX2_init_15 : decode cX2_init 15 = .ok (.newarray .int, 2) := by decide +kernel
theorem dX2_init_17 : decode cX2_init 17 = .ok (.putfield 15, 3) := by decide +kernel
theorem dX2_init_20 : decode cX2_init 20 = .ok (.aload_n 0, 1) := by decide +kernel
theorem dX2_init_21 : decode cX2_init 21 = .ok (.bipush 8, 2) := by decide +kernel
theorem dX2_init_23 : decode cX2_init 23 = .ok (.newarray .int, 2) := by decide +kernel
theorem dX2_init_25 : decode cX2_init 25 = .ok (.putfield 18, 3) := by decide +kernel
theorem dX2_init_28 : decode cX2_init 28 = .ok (.return_, 1) := by decide +kernel
theorem dX2_share_0 : decode cX2_share 0 = .ok (.aload_n 0, 1) := by decide +kernel
theorem dX2_share_1 : decode cX2_share 1 = .ok (.iconst 0, 1) := by decide +kernel
theorem dX2_share_2 : decode cX2_share 2 = .ok (.putfield 21, 3) := by decide +kernel
theorem dX2_share_5 : decode cX2_share 5 = .ok (.aload_n 1, 1) := by decide +kernel
theorem dX2_share_6 : decode cX2_share 6 = .ok (.getfield 25, 3) := by decide +kernel
theorem dX2_share_9 : decode cX2_share 9 = .ok (.iconst 0, 1) := by decide +kernel
theorem dX2_share_10 : decode cX2_share 10 = .ok (.aload_n 0, 1) := by decide +kernel
theorem dX2_share_11 : decode cX2_share 11 = .ok (.getfield 18, 3) := by decide +kernel
theorem dX2_share_14 : decode cX2_share 14 = .ok (.iconst 0, 1) := by decide +kernel
theorem dX2_share_15 : decode cX2_share 15 = .ok (.bipush 8, 2) := by decide +kernel
theorem dX2_share_17 : decode cX2_share 17 = .ok (.invokestatic 30, 3) := by decide +kernel
theorem dX2_share_20 : decode cX2_share 20 = .ok (.iconst 0, 1) := by decide +kernel
theorem dX2_share_21 : decode cX2_share 21 = .ok (.istore_n 2, 1) := by decide +kernel
theorem dX2_share_22 : decode cX2_share 22 = .ok (.iload_n 2, 1) := by decide +kernel
theorem dX2_share_23 : decode cX2_share 23 = .ok (.bipush 8, 2) := by decide +kernel
theorem dX2_share_25 : decode cX2_share 25 = .ok (.if_icmp .ge 30, 3) := by decide +kernel
theorem dX2_share_28 : decode cX2_share 28 = .ok (.aload_n 0, 1) := by decide +kernel
theorem dX2_share_29 : decode cX2_share 29 = .ok (.getfield 9, 3) := by decide +kernel
theorem dX2_share_32 : decode cX2_share 32 = .ok (.iload_n 2, 1) := by decide +kernel
theorem dX2_share_33 : decode cX2_share 33 = .ok (.iconst 0, 1) := by decide +kernel
theorem dX2_share_34 : decode cX2_share 34 = .ok (.iastore, 1) := by decide +kernel
theorem dX2_share_35 : decode cX2_share 35 = .ok (.aload_n 0, 1) := by decide +kernel
theorem dX2_share_36 : decode cX2_share 36 = .ok (.getfield 15, 3) := by decide +kernel
theorem dX2_share_39 : decode cX2_share 39 = .ok (.iload_n 2, 1) := by decide +kernel
theorem dX2_share_40 : decode cX2_share 40 = .ok (.aload_n 1, 1) := by decide +kernel
theorem dX2_share_41 : decode cX2_share 41 = .ok (.getfield 36, 3) := by decide +kernel
theorem dX2_share_44 : decode cX2_share 44 = .ok (.iload_n 2, 1) := by decide +kernel
theorem dX2_share_45 : decode cX2_share 45 = .ok (.invokevirtual 40, 3) := by decide +kernel
theorem dX2_share_48 : decode cX2_share 48 = .ok (.iastore, 1) := by decide +kernel
theorem dX2_share_49 : decode cX2_share 49 = .ok (.iinc 2 1, 3) := by decide +kernel
theorem dX2_share_52 : decode cX2_share 52 = .ok (.goto (-30), 3) := by decide +kernel
theorem dX2_share_55 : decode cX2_share 55 = .ok (.iconst 0, 1) := by decide +kernel
theorem dX2_share_56 : decode cX2_share 56 = .ok (.istore_n 2, 1) := by decide +kernel
theorem dX2_share_57 : decode cX2_share 57 = .ok (.iload_n 2, 1) := by decide +kernel
theorem dX2_share_58 : decode cX2_share 58 = .ok (.aload_n 1, 1) := by decide +kernel
theorem dX2_share_59 : decode cX2_share 59 = .ok (.getfield 46, 3) := by decide +kernel
theorem dX2_share_62 : decode cX2_share 62 = .ok (.getfield 50, 3) := by decide +kernel
theorem dX2_share_65 : decode cX2_share 65 = .ok (.if_icmp .ge 52, 3) := by decide +kernel
theorem dX2_share_68 : decode cX2_share 68 = .ok (.aload_n 1, 1) := by decide +kernel
theorem dX2_share_69 : decode cX2_share 69 = .ok (.getfield 46, 3) := by decide +kernel
theorem dX2_share_72 : decode cX2_share 72 = .ok (.iload_n 2, 1) := by decide +kernel
theorem dX2_share_73 : decode cX2_share 73 = .ok (.iconst 1, 1) := by decide +kernel
theorem dX2_share_74 : decode cX2_share 74 = .ok (.invokevirtual 55, 3) := by decide +kernel
theorem dX2_share_77 : decode cX2_share 77 = .ok (.iconst 1, 1) := by decide +kernel
theorem dX2_share_78 : decode cX2_share 78 = .ok (.if_icmp .ne 33, 3) := by decide +kernel
theorem dX2_share_81 : decode cX2_share 81 = .ok (.aload_n 0, 1) := by decide +kernel
theorem dX2_share_82 : decode cX2_share 82 = .ok (.getfield 15, 3) := by decide +kernel
theorem dX2_share_85 : decode cX2_share 85 = .ok (.aload_n 1, 1) := by decide +kernel
theorem dX2_share_86 : decode cX2_share 86 = .ok (.getfield 46, 3) := by decide +kernel
theorem dX2_share_89 : decode cX2_share 89 = .ok (.iload_n 2, 1) := by decide +kernel
theorem dX2_share_90 : decode cX2_share 90 = .ok (.iconst 0, 1) := by decide +kernel
theorem dX2_share_91 : decode cX2_share 91 = .ok (.invokevirtual 55, 3) := by decide +kernel
theorem dX2_share_94 : decode cX2_share 94 = .ok (.dup2, 1) := by decide +kernel
theorem dX2_share_95 : decode cX2_share 95 = .ok (.iaload, 1) := by decide +kernel
theorem dX2_share_96 : decode cX2_share 96 = .ok (.iconst 1, 1) := by decide +kernel
theorem dX2_share_97 : decode cX2_share 97 = .ok (.aload_n 1, 1) := by decide +kernel
theorem dX2_share_98 : decode cX2_share 98 = .ok (.getfield 46, 3) := by decide +kernel
theorem dX2_share_101 : decode cX2_share 101 = .ok (.iload_n 2, 1) := by decide +kernel
theorem dX2_share_102 : decode cX2_share 102 = .ok (.iconst 2, 1) := by decide +kernel
theorem dX2_share_103 : decode cX2_share 103 = .ok (.invokevirtual 55, 3) := by decide +kernel
theorem dX2_share_106 : decode cX2_share 106 = .ok (.ishl, 1) := by decide +kernel
theorem dX2_share_107 : decode cX2_share 107 = .ok (.iconst (-1), 1) := by decide +kernel
theorem dX2_share_108 : decode cX2_share 108 = .ok (.ixor, 1) := by decide +kernel
theorem dX2_share_109 : decode cX2_share 109 = .ok (.iand, 1) := by decide +kernel
theorem dX2_share_110 : decode cX2_share 110 = .ok (.iastore, 1) := by decide +kernel
theorem dX2_share_111 : decode cX2_share 111 = .ok (.iinc 2 1, 3) := by decide +kernel
theorem dX2_share_114 : decode cX2_share 114 = .ok (.goto (-57), 3) := by decide +kernel
theorem dX2_share_117 : decode cX2_share 117 = .ok (.iconst 0, 1) := by decide +kernel
theorem dX2_share_118 : decode cX2_share 118 = .ok (.istore_n 2, 1) := by decide +kernel
theorem dX2_share_119 : decode cX2_share 119 = .ok (.iload_n 2, 1) := by decide +kernel
theorem dX2_share_120 : decode cX2_share 120 = .ok (.aload_n 1, 1) := by decide +kernel
theorem dX2_share_121 : decode cX2_share 121 = .ok (.getfield 59, 3) := by decide +kernel
theorem dX2_share_124 : decode cX2_share 124 = .ok (.if_icmp .ge 64, 3) := by decide +kernel
theorem dX2_share_127 : decode cX2_share 127 = .ok (.aload_n 1, 1) := by decide +kernel
theorem dX2_share_128 : decode cX2_share 128 = .ok (.getfield 36, 3) := by decide +kernel
theorem dX2_share_131 : decode cX2_share 131 = .ok (.iload_n 2, 1) := by decide +kernel
theorem dX2_share_132 : decode cX2_share 132 = .ok (.invokevirtual 62, 3) := by decide +kernel
theorem dX2_share_135 : decode cX2_share 135 = .ok (.aload_n 1, 1) := by decide +kernel
theorem dX2_share_136 : decode cX2_share 136 = .ok (.getfield 65, 3) := by decide +kernel
theorem dX2_share_139 : decode cX2_share 139 = .ok (.isub, 1) := by decide +kernel
theorem dX2_share_140 : decode cX2_share 140 = .ok (.istore_n 3, 1) := by decide +kernel
theorem dX2_share_141 : decode cX2_share 141 = .ok (.iconst 0, 1) := by decide +kernel
theorem dX2_share_142 : decode cX2_share 142 = .ok (.istore 4, 2) := by decide +kernel
theorem dX2_share_144 : decode cX2_share 144 = .ok (.iload 4, 2) := by decide +kernel
theorem dX2_share_146 : decode cX2_share 146 = .ok (.iload_n 3, 1) := by decide +kernel
theorem dX2_share_147 : decode cX2_share 147 = .ok (.if_icmp .ge 35, 3) := by decide +kernel
theorem dX2_share_150 : decode cX2_share 150 = .ok (.aload_n 0, 1) := by decide +kernel
theorem dX2_share_151 : decode cX2_share 151 = .ok (.iconst 0, 1) := by decide +kernel
theorem dX2_share_152 : decode cX2_share 152 = .ok (.putfield 68, 3) := by decide +kernel
theorem dX2_share_155 : decode cX2_share 155 = .ok (.aload_n 0, 1) := by decide +kernel
theorem dX2_share_156 : decode cX2_share 156 = .ok (.iload_n 2, 1) := by decide +kernel
theorem dX2_share_157 : decode cX2_share 157 = .ok (.iconst 0, 1) := by decide +kernel
theorem dX2_share_158 : decode cX2_share 158 = .ok (.invokevirtual 71, 3) := by decide +kernel
theorem dX2_share_161 : decode cX2_share 161 = .ok (.ifCond .ne 5, 3) := by decide +kernel
theorem dX2_share_164 : decode cX2_share 164 = .ok (.iconst 0, 1) := by decide +kernel
theorem dX2_share_165 : decode cX2_share 165 = .ok (.ireturn, 1) := by decide +kernel
theorem dX2_share_166 : decode cX2_share 166 = .ok (.aload_n 0, 1) := by decide +kernel
theorem dX2_share_167 : decode cX2_share 167 = .ok (.dup, 1) := by decide +kernel
theorem dX2_share_168 : decode cX2_share 168 = .ok (.getfield 21, 3) := by decide +kernel
theorem dX2_share_171 : decode cX2_share 171 = .ok (.iconst 1, 1) := by decide +kernel
theorem dX2_share_172 : decode cX2_share 172 = .ok (.iadd, 1) := by decide +kernel
theorem dX2_share_173 : decode cX2_share 173 = .ok (.putfield 21, 3) := by decide +kernel
theorem dX2_share_176 : decode cX2_share 176 = .ok (.iinc 4 1, 3) := by decide +kernel
theorem dX2_share_179 : decode cX2_share 179 = .ok (.goto (-35), 3) := by decide +kernel
theorem dX2_share_182 : decode cX2_share 182 = .ok (.iinc 2 1, 3) := by decide +kernel
theorem dX2_share_185 : decode cX2_share 185 = .ok (.goto (-66), 3) := by decide +kernel
theorem dX2_share_188 : decode cX2_share 188 = .ok (.iconst 0, 1) := by decide +kernel
theorem dX2_share_189 : decode cX2_share 189 = .ok (.istore_n 2, 1) := by decide +kernel
theorem dX2_share_190 : decode cX2_share 190 = .ok (.iload_n 2, 1) := by decide +kernel
theorem dX2_share_191 : decode cX2_share 191 = .ok (.aload_n 1, 1) := by decide +kernel
theorem dX2_share_192 : decode cX2_share 192 = .ok (.getfield 59, 3) := by decide +kernel
theorem dX2_share_195 : decode cX2_share 195 = .ok (.if_icmp .ge 14, 3) := by decide +kernel
theorem dX2_share_198 : decode cX2_share 198 = .ok (.aload_n 0, 1) := by decide +kernel
theorem dX2_share_199 : decode cX2_share 199 = .ok (.iload_n 2, 1) := by decide +kernel
theorem dX2_share_200 : decode cX2_share 200 = .ok (.invokevirtual 75, 3) := by decide +kernel
theorem dX2_share_203 : decode cX2_share 203 = .ok (.iinc 2 1, 3) := by decide +kernel
theorem dX2_share_206 : decode cX2_share 206 = .ok (.goto (-16), 3) := by decide +kernel
theorem dX2_share_209 : decode cX2_share 209 = .ok (.iconst 1, 1) := by decide +kernel
theorem dX2_share_210 : decode cX2_share 210 = .ok (.ireturn, 1) := by decide +kernel
theorem dX2_lessen_0 : decode cX2_lessen 0 = .ok (.bipush 7, 2) := by decide +kernel
theorem dX2_lessen_2 : decode cX2_lessen 2 = .ok (.istore_n 2, 1) := by decide +kernel
theorem dX2_lessen_3 : decode cX2_lessen 3 = .ok (.iload_n 2, 1) := by decide +kernel
theorem dX2_lessen_4 : decode cX2_lessen 4 = .ok (.ifCond .lt 62, 3) := by decide +kernel
theorem dX2_lessen_7 : decode cX2_lessen 7 = .ok (.iconst 1, 1) := by decide +kernel
theorem dX2_lessen_8 : decode cX2_lessen 8 = .ok (.iload_n 2, 1) := by decide +kernel
theorem dX2_lessen_9 : decode cX2_lessen 9 = .ok (.ishl, 1) := by decide +kernel
theorem dX2_lessen_10 : decode cX2_lessen 10 = .ok (.istore_n 3, 1) := by decide +kernel
theorem dX2_lessen_11 : decode cX2_lessen 11 = .ok (.aload_n 0, 1) := by decide +kernel
theorem dX2_lessen_12 : decode cX2_lessen 12 = .ok (.getfield 15, 3) := by decide +kernel
theorem dX2_lessen_15 : decode cX2_lessen 15 = .ok (.iload_n 1, 1) := by decide +kernel
theorem dX2_lessen_16 : decode cX2_lessen 16 = .ok (.dup2, 1) := by decide +kernel
theorem dX2_lessen_17 : decode cX2_lessen 17 = .ok (.iaload, 1) := by decide +kernel
theorem dX2_lessen_18 : decode cX2_lessen 18 = .ok (.iload_n 3, 1) := by decide +kernel
theorem dX2_lessen_19 : decode cX2_lessen 19 = .ok (.iconst (-1), 1) := by decide +kernel
theorem dX2_lessen_20 : decode cX2_lessen 20 = .ok (.ixor, 1) := by decide +kernel
theorem dX2_lessen_21 : decode cX2_lessen 21 = .ok (.iand, 1) := by decide +kernel
theorem dX2_lessen_22 : decode cX2_lessen 22 = .ok (.iastore, 1) := by decide +kernel
theorem dX2_lessen_23 : decode cX2_lessen 23 = .ok (.aload_n 0, 1) := by decide +kernel
theorem dX2_lessen_24 : decode cX2_lessen 24 = .ok (.getfield 9, 3) := by decide +kernel
theorem dX2_lessen_27 : decode cX2_lessen 27 = .ok (.iload_n 1, 1) := by decide +kernel
theorem dX2_lessen_28 : decode cX2_lessen 28 = .ok (.iaload, 1) := by decide +kernel
theorem dX2_lessen_29 : decode cX2_lessen 29 = .ok (.iload_n 3, 1) := by decide +kernel
theorem dX2_lessen_30 : decode cX2_lessen 30 = .ok (.iand, 1) := by decide +kernel
theorem dX2_lessen_31 : decode cX2_lessen 31 = .ok (.ifCond .eq 29, 3) := by decide +kernel
theorem dX2_lessen_34 : decode cX2_lessen 34 = .ok (.aload_n 0, 1) := by decide +kernel
theorem dX2_lessen_35 : decode cX2_lessen 35 = .ok (.iload_n 1, 1) := by decide +kernel
theorem dX2_lessen_36 : decode cX2_lessen 36 = .ok (.iload_n 2, 1) := by decide +kernel
theorem dX2_lessen_37 : decode cX2_lessen 37 = .ok (.invokevirtual 79, 3) := by decide +kernel
theorem dX2_lessen_40 : decode cX2_lessen 40 = .ok (.aload_n 0, 1) := by decide +kernel
theorem dX2_lessen_41 : decode cX2_lessen 41 = .ok (.iconst 0, 1) := by decide +kernel
theorem dX2_lessen_42 : decode cX2_lessen 42 = .ok (.putfield 68, 3) := by decide +kernel
theorem dX2_lessen_45 : decode cX2_lessen 45 = .ok (.aload_n 0, 1) := by decide +kernel
theorem dX2_lessen_46 : decode cX2_lessen 46 = .ok (.iload_n 1, 1) := by decide +kernel
theorem dX2_lessen_47 : decode cX2_lessen 47 = .ok (.iconst 0, 1) := by decide +kernel
theorem dX2_lessen_48 : decode cX2_lessen 48 = .ok (.invokevirtual 71, 3) := by decide +kernel
theorem dX2_lessen_51 : decode cX2_lessen 51 = .ok (.ifCond .ne 9, 3) := by decide +kernel
theorem dX2_lessen_54 : decode cX2_lessen 54 = .ok (.aload_n 0, 1) := by decide +kernel
theorem dX2_lessen_55 : decode cX2_lessen 55 = .ok (.iload_n 1, 1) := by decide +kernel
theorem dX2_lessen_56 : decode cX2_lessen 56 = .ok (.iload_n 2, 1) := by decide +kernel
theorem dX2_lessen_57 : decode cX2_lessen 57 = .ok (.invokevirtual 83, 3) := by decide +kernel
theorem dX2_lessen_60 : decode cX2_lessen 60 = .ok (.iinc 2 (-1), 3) := by decide +kernel
theorem dX2_lessen_63 : decode cX2_lessen 63 = .ok (.goto (-60), 3) := by decide +kernel
theorem dX2_lessen_66 : decode cX2_lessen 66 = .ok (.return_, 1) := by decide +kernel
theorem dX2_place_0 : decode cX2_place 0 = .ok (.iload_n 2, 1) := by decide +kernel
theorem dX2_place_1 : decode cX2_place 1 = .ok (.bipush 8, 2) := by decide +kernel
theorem dX2_place_3 : decode cX2_place 3 = .ok (.if_icmp .le 5, 3) := by decide +kernel
theorem dX2_place_6 : decode cX2_place 6 = .ok (.iconst 0, 1) := by decide +kernel
theorem dX2_place_7 : decode cX2_place 7 = .ok (.ireturn, 1) := by decide +kernel
theorem dX2_place_8 : decode cX2_place 8 = .ok (.iconst 0, 1) := by decide +kernel
theorem dX2_place_9 : decode cX2_place 9 = .ok (.istore_n 3, 1) := by decide +kernel
theorem dX2_place_10 : decode cX2_place 10 = .ok (.iload_n 3, 1) := by decide +kernel
theorem dX2_place_11 : decode cX2_place 11 = .ok (.bipush 8, 2) := by decide +kernel
theorem dX2_place_13 : decode cX2_place 13 = .ok (.if_icmp .ge 79, 3) := by decide +kernel
theorem dX2_place_16 : decode cX2_place 16 = .ok (.iconst 1, 1) := by decide +kernel
theorem dX2_place_17 : decode cX2_place 17 = .ok (.iload_n 3, 1) := by decide +kernel
theorem dX2_place_18 : decode cX2_place 18 = .ok (.ishl, 1) := by decide +kernel
theorem dX2_place_19 : decode cX2_place 19 = .ok (.istore 4, 2) := by decide +kernel
theorem dX2_place_21 : decode cX2_place 21 = .ok (.aload_n 0, 1) := by decide +kernel
theorem dX2_place_22 : decode cX2_place 22 = .ok (.getfield 15, 3) := by decide +kernel
theorem dX2_place_25 : decode cX2_place 25 = .ok (.iload_n 1, 1) := by decide +kernel
theorem dX2_place_26 : decode cX2_place 26 = .ok (.iaload, 1) := by decide +kernel
theorem dX2_place_27 : decode cX2_place 27 = .ok (.aload_n 0, 1) := by decide +kernel
theorem dX2_place_28 : decode cX2_place 28 = .ok (.getfield 9, 3) := by decide +kernel
theorem dX2_place_31 : decode cX2_place 31 = .ok (.iload_n 1, 1) := by decide +kernel
theorem dX2_place_32 : decode cX2_place 32 = .ok (.iaload, 1) := by decide +kernel
theorem dX2_place_33 : decode cX2_place 33 = .ok (.iconst (-1), 1) := by decide +kernel
theorem dX2_place_34 : decode cX2_place 34 = .ok (.ixor, 1) := by decide +kernel
theorem dX2_place_35 : decode cX2_place 35 = .ok (.iand, 1) := by decide +kernel
theorem dX2_place_36 : decode cX2_place 36 = .ok (.aload_n 0, 1) := by decide +kernel
theorem dX2_place_37 : decode cX2_place 37 = .ok (.getfield 68, 3) := by decide +kernel
theorem dX2_place_40 : decode cX2_place 40 = .ok (.iconst (-1), 1) := by decide +kernel
theorem dX2_place_41 : decode cX2_place 41 = .ok (.ixor, 1) := by decide +kernel
theorem dX2_place_42 : decode cX2_place 42 = .ok (.iand, 1) := by decide +kernel
theorem dX2_place_43 : decode cX2_place 43 = .ok (.iload 4, 2) := by decide +kernel
theorem dX2_place_45 : decode cX2_place 45 = .ok (.iand, 1) := by decide +kernel
theorem dX2_place_46 : decode cX2_place 46 = .ok (.ifCond .eq 40, 3) := by decide +kernel
theorem dX2_place_49 : decode cX2_place 49 = .ok (.aload_n 0, 1) := by decide +kernel
theorem dX2_place_50 : decode cX2_place 50 = .ok (.dup, 1) := by decide +kernel
theorem dX2_place_51 : decode cX2_place 51 = .ok (.getfield 68, 3) := by decide +kernel
theorem dX2_place_54 : decode cX2_place 54 = .ok (.iload 4, 2) := by decide +kernel
theorem dX2_place_56 : decode cX2_place 56 = .ok (.ior, 1) := by decide +kernel
theorem dX2_place_57 : decode cX2_place 57 = .ok (.putfield 68, 3) := by decide +kernel
theorem dX2_place_60 : decode cX2_place 60 = .ok (.aload_n 0, 1) := by decide +kernel
theorem dX2_place_61 : decode cX2_place 61 = .ok (.getfield 18, 3) := by decide +kernel
theorem dX2_place_64 : decode cX2_place 64 = .ok (.iload_n 3, 1) := by decide +kernel
theorem dX2_place_65 : decode cX2_place 65 = .ok (.iaload, 1) := by decide +kernel
theorem dX2_place_66 : decode cX2_place 66 = .ok (.ifCond .gt 12, 3) := by decide +kernel
theorem dX2_place_69 : decode cX2_place 69 = .ok (.aload_n 0, 1) := by decide +kernel
theorem dX2_place_70 : decode cX2_place 70 = .ok (.iload_n 3, 1) := by decide +kernel
theorem dX2_place_71 : decode cX2_place 71 = .ok (.iload_n 2, 1) := by decide +kernel
theorem dX2_place_72 : decode cX2_place 72 = .ok (.invokevirtual 86, 3) := by decide +kernel
theorem dX2_place_75 : decode cX2_place 75 = .ok (.ifCond .eq 11, 3) := by decide +kernel
theorem dX2_place_78 : decode cX2_place 78 = .ok (.aload_n 0, 1) := by decide +kernel
theorem dX2_place_79 : decode cX2_place 79 = .ok (.iload_n 1, 1) := by decide +kernel
theorem dX2_place_80 : decode cX2_place 80 = .ok (.iload_n 3, 1) := by decide +kernel
theorem dX2_place_81 : decode cX2_place 81 = .ok (.invokevirtual 83, 3) := by decide +kernel
theorem dX2_place_84 : decode cX2_place 84 = .ok (.iconst 1, 1) := by decide +kernel
theorem dX2_place_85 : decode cX2_place 85 = .ok (.ireturn, 1) := by decide +kernel
theorem dX2_place_86 : decode cX2_place 86 = .ok (.iinc 3 1, 3) := by decide +kernel
theorem dX2_place_89 : decode cX2_place 89 = .ok (.goto (-79), 3) := by decide +kernel
theorem dX2_place_92 : decode cX2_place 92 = .ok (.iconst 0, 1) := by decide +kernel
theorem dX2_place_93 : decode cX2_place 93 = .ok (.ireturn, 1) := by decide +kernel
theorem dX2_frees_0 : decode cX2_frees 0 = .ok (.iconst 0, 1) := by decide +kernel
theorem dX2_frees_1 : decode cX2_frees 1 = .ok (.istore_n 3, 1) := by decide +kernel
theorem dX2_frees_2 : decode cX2_frees 2 = .ok (.iload_n 3, 1) := by decide +kernel
theorem dX2_frees_3 : decode cX2_frees 3 = .ok (.bipush 8, 2) := by decide +kernel
theorem dX2_frees_5 : decode cX2_frees 5 = .ok (.if_icmp .ge 41, 3) := by decide +kernel
theorem dX2_frees_8 : decode cX2_frees 8 = .ok (.aload_n 0, 1) := by decide +kernel
theorem dX2_frees_9 : decode cX2_frees 9 = .ok (.getfield 9, 3) := by decide +kernel
theorem dX2_frees_12 : decode cX2_frees 12 = .ok (.iload_n 3, 1) := by decide +kernel
theorem dX2_frees_13 : decode cX2_frees 13 = .ok (.iaload, 1) := by decide +kernel
theorem dX2_frees_14 : decode cX2_frees 14 = .ok (.iload_n 1, 1) := by decide +kernel
theorem dX2_frees_15 : decode cX2_frees 15 = .ok (.ishr, 1) := by decide +kernel
theorem dX2_frees_16 : decode cX2_frees 16 = .ok (.iconst 1, 1) := by decide +kernel
theorem dX2_frees_17 : decode cX2_frees 17 = .ok (.iand, 1) := by decide +kernel
theorem dX2_frees_18 : decode cX2_frees 18 = .ok (.ifCond .eq 22, 3) := by decide +kernel
theorem dX2_frees_21 : decode cX2_frees 21 = .ok (.aload_n 0, 1) := by decide +kernel
theorem dX2_frees_22 : decode cX2_frees 22 = .ok (.iload_n 3, 1) := by decide +kernel
theorem dX2_frees_23 : decode cX2_frees 23 = .ok (.iload_n 2, 1) := by decide +kernel
theorem dX2_frees_24 : decode cX2_frees 24 = .ok (.iconst 1, 1) := by decide +kernel
theorem dX2_frees_25 : decode cX2_frees 25 = .ok (.iadd, 1) := by decide +kernel
theorem dX2_frees_26 : decode cX2_frees 26 = .ok (.invokevirtual 71, 3) := by decide +kernel
theorem dX2_frees_29 : decode cX2_frees 29 = .ok (.ifCond .eq 11, 3) := by decide +kernel
theorem dX2_frees_32 : decode cX2_frees 32 = .ok (.aload_n 0, 1) := by decide +kernel
theorem dX2_frees_33 : decode cX2_frees 33 = .ok (.iload_n 3, 1) := by decide +kernel
theorem dX2_frees_34 : decode cX2_frees 34 = .ok (.iload_n 1, 1) := by decide +kernel
theorem dX2_frees_35 : decode cX2_frees 35 = .ok (.invokevirtual 79, 3) := by decide +kernel
theorem dX2_frees_38 : decode cX2_frees 38 = .ok (.iconst 1, 1) := by decide +kernel
theorem dX2_frees_39 : decode cX2_frees 39 = .ok (.ireturn, 1) := by decide +kernel
theorem dX2_frees_40 : decode cX2_frees 40 = .ok (.iinc 3 1, 3) := by decide +kernel
theorem dX2_frees_43 : decode cX2_frees 43 = .ok (.goto (-41), 3) := by decide +kernel
theorem dX2_frees_46 : decode cX2_frees 46 = .ok (.iconst 0, 1) := by decide +kernel
theorem dX2_frees_47 : decode cX2_frees 47 = .ok (.ireturn, 1) := by decide +kernel
theorem dX2_hand_0 : decode cX2_hand 0 = .ok (.aload_n 0, 1) := by decide +kernel
theorem dX2_hand_1 : decode cX2_hand 1 = .ok (.getfield 9, 3) := by decide +kernel
theorem dX2_hand_4 : decode cX2_hand 4 = .ok (.iload_n 1, 1) := by decide +kernel
theorem dX2_hand_5 : decode cX2_hand 5 = .ok (.dup2, 1) := by decide +kernel
theorem dX2_hand_6 : decode cX2_hand 6 = .ok (.iaload, 1) := by decide +kernel
theorem dX2_hand_7 : decode cX2_hand 7 = .ok (.iconst 1, 1) := by decide +kernel
theorem dX2_hand_8 : decode cX2_hand 8 = .ok (.iload_n 2, 1) := by decide +kernel
theorem dX2_hand_9 : decode cX2_hand 9 = .ok (.ishl, 1) := by decide +kernel
theorem dX2_hand_10 : decode cX2_hand 10 = .ok (.ior, 1) := by decide +kernel
theorem dX2_hand_11 : decode cX2_hand 11 = .ok (.iastore, 1) := by decide +kernel
theorem dX2_hand_12 : decode cX2_hand 12 = .ok (.aload_n 0, 1) := by decide +kernel
theorem dX2_hand_13 : decode cX2_hand 13 = .ok (.getfield 18, 3) := by decide +kernel
theorem dX2_hand_16 : decode cX2_hand 16 = .ok (.iload_n 2, 1) := by decide +kernel
theorem dX2_hand_17 : decode cX2_hand 17 = .ok (.dup2, 1) := by decide +kernel
theorem dX2_hand_18 : decode cX2_hand 18 = .ok (.iaload, 1) := by decide +kernel
theorem dX2_hand_19 : decode cX2_hand 19 = .ok (.iconst 1, 1) := by decide +kernel
theorem dX2_hand_20 : decode cX2_hand 20 = .ok (.isub, 1) := by decide +kernel
theorem dX2_hand_21 : decode cX2_hand 21 = .ok (.iastore, 1) := by decide +kernel
theorem dX2_hand_22 : decode cX2_hand 22 = .ok (.return_, 1) := by decide +kernel
theorem dX2_drop_0 : decode cX2_drop 0 = .ok (.aload_n 0, 1) := by decide +kernel
theorem dX2_drop_1 : decode cX2_drop 1 = .ok (.getfield 9, 3) := by decide +kernel
theorem dX2_drop_4 : decode cX2_drop 4 = .ok (.iload_n 1, 1) := by decide +kernel
theorem dX2_drop_5 : decode cX2_drop 5 = .ok (.dup2, 1) := by decide +kernel
theorem dX2_drop_6 : decode cX2_drop 6 = .ok (.iaload, 1) := by decide +kernel
theorem dX2_drop_7 : decode cX2_drop 7 = .ok (.iconst 1, 1) := by decide +kernel
theorem dX2_drop_8 : decode cX2_drop 8 = .ok (.iload_n 2, 1) := by decide +kernel
theorem dX2_drop_9 : decode cX2_drop 9 = .ok (.ishl, 1) := by decide +kernel
theorem dX2_drop_10 : decode cX2_drop 10 = .ok (.iconst (-1), 1) := by decide +kernel
theorem dX2_drop_11 : decode cX2_drop 11 = .ok (.ixor, 1) := by decide +kernel
theorem dX2_drop_12 : decode cX2_drop 12 = .ok (.iand, 1) := by decide +kernel
theorem dX2_drop_13 : decode cX2_drop 13 = .ok (.iastore, 1) := by decide +kernel
theorem dX2_drop_14 : decode cX2_drop 14 = .ok (.aload_n 0, 1) := by decide +kernel
theorem dX2_drop_15 : decode cX2_drop 15 = .ok (.getfield 18, 3) := by decide +kernel
theorem dX2_drop_18 : decode cX2_drop 18 = .ok (.iload_n 2, 1) := by decide +kernel
theorem dX2_drop_19 : decode cX2_drop 19 = .ok (.dup2, 1) := by decide +kernel
theorem dX2_drop_20 : decode cX2_drop 20 = .ok (.iaload, 1) := by decide +kernel
theorem dX2_drop_21 : decode cX2_drop 21 = .ok (.iconst 1, 1) := by decide +kernel
theorem dX2_drop_22 : decode cX2_drop 22 = .ok (.iadd, 1) := by decide +kernel
theorem dX2_drop_23 : decode cX2_drop 23 = .ok (.iastore, 1) := by decide +kernel
theorem dX2_drop_24 : decode cX2_drop 24 = .ok (.return_, 1) := by decide +kernel
theorem dX3_init_0 : decode cX3_init 0 = .ok (.aload_n 0, 1) := by decide +kernel
theorem dX3_init_1 : decode cX3_init 1 = .ok (.invokespecial 3, 3) := by decide +kernel
theorem dX3_init_4 : decode cX3_init 4 = .ok (.aload_n 0, 1) := by decide +kernel
theorem dX3_init_5 : decode cX3_init 5 = .ok (.new 9, 3) := by decide +kernel
theorem dX3_init_8 : decode cX3_init 8 = .ok (.dup, 1) := by decide +kernel
theorem dX3_init_9 : decode cX3_init 9 = .ok (.bipush 16, 2) := by decide +kernel
theorem dX3_init_11 : decode cX3_init 11 = .ok (.sipush 400, 3) := by decide +kernel
theorem dX3_init_14 : decode cX3_init 14 = .ok (.invokespecial 11, 3) := by decide +kernel
theorem dX3_init_17 : decode cX3_init 17 = .ok (.putfield 14, 3) := by decide +kernel
theorem dX3_init_20 : decode cX3_init 20 = .ok (.aload_n 0, 1) := by decide +kernel
theorem dX3_init_21 : decode cX3_init 21 = .ok (.iconst (-1), 1) := by decide +kernel
theorem dX3_init_22 : decode cX3_init 22 = .ok (.putfield 20, 3) := by decide +kernel
theorem dX3_init_25 : decode cX3_init 25 = .ok (.aload_n 0, 1) := by decide +kernel
theorem dX3_init_26 : decode cX3_init 26 = .ok (.bipush 32, 2) := by decide +kernel
theorem dX3_init_28 : decode cX3_init 28 = .ok (.newarray .int, 2) := by decide +kernel
theorem dX3_init_30 : decode cX3_init 30 = .ok (.putfield 24, 3) := by decide +kernel
theorem dX3_init_33 : decode cX3_init 33 = .ok (.aload_n 0, 1) := by decide +kernel
theorem dX3_init_34 : decode cX3_init 34 = .ok (.aload_n 1, 1) := by decide +kernel
theorem dX3_init_35 : decode cX3_init 35 = .ok (.putfield 28, 3) := by decide +kernel
theorem dX3_init_38 : decode cX3_init 38 = .ok (.return_, 1) := by decide +kernel
theorem dX3_read_0 : decode cX3_read 0 = .ok (.aload_n 0, 1) := by decide +kernel
theorem dX3_read_1 : decode cX3_read 1 = .ok (.iconst 0, 1) := by decide +kernel
theorem dX3_read_2 : decode cX3_read 2 = .ok (.putfield 32, 3) := by decide +kernel
theorem dX3_read_5 : decode cX3_read 5 = .ok (.aload_n 0, 1) := by decide +kernel
theorem dX3_read_6 : decode cX3_read 6 = .ok (.iconst (-1), 1) := by decide +kernel
theorem dX3_read_7 : decode cX3_read 7 = .ok (.putfield 20, 3) := by decide +kernel
theorem dX3_read_10 : decode cX3_read 10 = .ok (.iload_n 1, 1) := by decide +kernel
theorem dX3_read_11 : decode cX3_read 11 = .ok (.ifCond .lt 8, 3) := by decide +kernel
theorem dX3_read_14 : decode cX3_read 14 = .ok (.iload_n 1, 1) := by decide +kernel
theorem dX3_read_15 : decode cX3_read 15 = .ok (.iconst 3, 1) := by decide +kernel
theorem dX3_read_16 : decode cX3_read 16 = .ok (.if_icmp .le 5, 3) := by decide +kernel
theorem dX3_read_19 : decode cX3_read 19 = .ok (.iconst 0, 1) := by decide +kernel
theorem dX3_read_20 : decode cX3_read 20 = .ok (.ireturn, 1) := by decide +kernel
theorem dX3_read_21 : decode cX3_read 21 = .ok (.aload_n 0, 1) := by decide +kernel
theorem dX3_read_22 : decode cX3_read 22 = .ok (.iload_n 2, 1) := by decide +kernel
theorem dX3_read_23 : decode cX3_read 23 = .ok (.putfield 35, 3) := by decide +kernel
theorem dX3_read_26 : decode cX3_read 26 = .ok (.aload_n 0, 1) := by decide +kernel
theorem dX3_read_27 : decode cX3_read 27 = .ok (.iload_n 1, 1) := by decide +kernel
theorem dX3_read_28 : decode cX3_read 28 = .ok (.iconst 2, 1) := by decide +kernel
theorem dX3_read_29 : decode cX3_read 29 = .ok (.if_icmp .ne 8, 3) := by decide +kernel
theorem dX3_read_32 : decode cX3_read 32 = .ok (.bipush 12, 2) := by decide +kernel
theorem dX3_read_34 : decode cX3_read 34 = .ok (.goto 5, 3) := by decide +kernel
theorem dX3_read_37 : decode cX3_read 37 = .ok (.bipush 16, 2) := by decide +kernel
theorem dX3_read_39 : decode cX3_read 39 = .ok (.putfield 38, 3) := by decide +kernel
theorem dX3_read_42 : decode cX3_read 42 = .ok (.aload_n 0, 1) := by decide +kernel
theorem dX3_read_43 : decode cX3_read 43 = .ok (.iconst 0, 1) := by decide +kernel
theorem dX3_read_44 : decode cX3_read 44 = .ok (.putfield 41, 3) := by decide +kernel
theorem dX3_read_47 : decode cX3_read 47 = .ok (.aload_n 0, 1) := by decide +kernel
theorem dX3_read_48 : decode cX3_read 48 = .ok (.getfield 14, 3) := by decide +kernel
theorem dX3_read_51 : decode cX3_read 51 = .ok (.invokevirtual 44, 3) := by decide +kernel
theorem dX3_read_54 : decode cX3_read 54 = .ok (.aload_n 0, 1) := by decide +kernel
theorem dX3_read_55 : decode cX3_read 55 = .ok (.getfield 28, 3) := by decide +kernel
theorem dX3_read_58 : decode cX3_read 58 = .ok (.invokevirtual 47, 3) := by decide +kernel
theorem dX3_read_61 : decode cX3_read 61 = .ok (.iconst 0, 1) := by decide +kernel
theorem dX3_read_62 : decode cX3_read 62 = .ok (.istore_n 3, 1) := by decide +kernel
theorem dX3_read_63 : decode cX3_read 63 = .ok (.iload_n 3, 1) := by decide +kernel
theorem dX3_read_64 : decode cX3_read 64 = .ok (.aload_n 0, 1) := by decide +kernel
theorem dX3_read_65 : decode cX3_read 65 = .ok (.getfield 38, 3) := by decide +kernel
theorem dX3_read_68 : decode cX3_read 68 = .ok (.if_icmp .gt 64, 3) := by decide +kernel
theorem dX3_read_71 : decode cX3_read 71 = .ok (.aload_n 0, 1) := by decide +kernel
theorem dX3_read_72 : decode cX3_read 72 = .ok (.getfield 32, 3) := by decide +kernel
theorem dX3_read_75 : decode cX3_read 75 = .ok (.ifCond .ne 57, 3) := by decide +kernel
theorem dX3_read_78 : decode cX3_read 78 = .ok (.aload_n 0, 1) := by decide +kernel
theorem dX3_read_79 : decode cX3_read 79 = .ok (.invokevirtual 52, 3) := by decide +kernel
theorem dX3_read_82 : decode cX3_read 82 = .ok (.bipush 43, 2) := by decide +kernel
theorem dX3_read_84 : decode cX3_read 84 = .ok (.if_icmp .eq 48, 3) := by decide +kernel
theorem dX3_read_87 : decode cX3_read 87 = .ok (.iload_n 1, 1) := by decide +kernel
theorem dX3_read_88 : decode cX3_read 88 = .ok (.ifCond .ne 10, 3) := by decide +kernel
theorem dX3_read_91 : decode cX3_read 91 = .ok (.aload_n 0, 1) := by decide +kernel
theorem dX3_read_92 : decode cX3_read 92 = .ok (.invokevirtual 56, 3) := by decide +kernel
theorem dX3_read_95 : decode cX3_read 95 = .ok (.goto 31, 3) := by decide +kernel
theorem dX3_read_98 : decode cX3_read 98 = .ok (.iload_n 1, 1) := by decide +kernel
theorem dX3_read_99 : decode cX3_read 99 = .ok (.iconst 1, 1) := by decide +kernel
theorem dX3_read_100 : decode cX3_read 100 = .ok (.if_icmp .ne 10, 3) := by decide +kernel
theorem dX3_read_103 : decode cX3_read 103 = .ok (.aload_n 0, 1) := by decide +kernel
theorem dX3_read_104 : decode cX3_read 104 = .ok (.invokevirtual 59, 3) := by decide +kernel
theorem dX3_read_107 : decode cX3_read 107 = .ok (.goto 19, 3) := by decide +kernel
theorem dX3_read_110 : decode cX3_read 110 = .ok (.iload_n 1, 1) := by decide +kernel
theorem dX3_read_111 : decode cX3_read 111 = .ok (.iconst 2, 1) := by decide +kernel
theorem dX3_read_112 : decode cX3_read 112 = .ok (.if_icmp .ne 10, 3) := by decide +kernel
theorem dX3_read_115 : decode cX3_read 115 = .ok (.aload_n 0, 1) := by decide +kernel
theorem dX3_read_116 : decode cX3_read 116 = .ok (.invokevirtual 62, 3) := by decide +kernel
theorem dX3_read_119 : decode cX3_read 119 = .ok (.goto 7, 3) := by decide +kernel
theorem dX3_read_122 : decode cX3_read 122 = .ok (.aload_n 0, 1) := by decide +kernel
theorem dX3_read_123 : decode cX3_read 123 = .ok (.invokevirtual 65, 3) := by decide +kernel
theorem dX3_read_126 : decode cX3_read 126 = .ok (.iinc 3 1, 3) := by decide +kernel
theorem dX3_read_129 : decode cX3_read 129 = .ok (.goto (-66), 3) := by decide +kernel
theorem dX3_read_132 : decode cX3_read 132 = .ok (.aload_n 0, 1) := by decide +kernel
theorem dX3_read_133 : decode cX3_read 133 = .ok (.getfield 32, 3) := by decide +kernel
theorem dX3_read_136 : decode cX3_read 136 = .ok (.ifCond .ne 7, 3) := by decide +kernel
theorem dX3_read_139 : decode cX3_read 139 = .ok (.iconst 1, 1) := by decide +kernel
theorem dX3_read_140 : decode cX3_read 140 = .ok (.goto 4, 3) := by decide +kernel
theorem dX3_read_143 : decode cX3_read 143 = .ok (.iconst 0, 1) := by decide +kernel
theorem dX3_read_144 : decode cX3_read 144 = .ok (.ireturn, 1) := by decide +kernel
theorem dX3_readReason_0 : decode cX3_readReason 0 = .ok (.aload_n 0, 1) := by decide +kernel
theorem dX3_readReason_1 : decode cX3_readReason 1 = .ok (.getfield 41, 3) := by decide +kernel
theorem dX3_readReason_4 : decode cX3_readReason 4 = .ok (.istore_n 1, 1) := by decide +kernel
theorem dX3_readReason_5 : decode cX3_readReason 5 = .ok (.aload_n 0, 1) := by decide +kernel
theorem dX3_readReason_6 : decode cX3_readReason 6 = .ok (.iconst 0, 1) := by decide +kernel
theorem dX3_readReason_7 : decode cX3_readReason 7 = .ok (.bipush 7, 2) := by decide +kernel
theorem dX3_readReason_9 : decode cX3_readReason 9 = .ok (.invokevirtual 68, 3) := by decide +kernel
theorem dX3_readReason_12 : decode cX3_readReason 12 = .ok (.istore_n 2, 1) := by decide +kernel
theorem dX3_readReason_13 : decode cX3_readReason 13 = .ok (.aload_n 0, 1) := by decide +kernel
theorem dX3_readReason_14 : decode cX3_readReason 14 = .ok (.getfield 32, 3) := by decide +kernel
theorem dX3_readReason_17 : decode cX3_readReason 17 = .ok (.ifCond .ne 23, 3) := by decide +kernel
theorem dX3_readReason_20 : decode cX3_readReason 20 = .ok (.aload_n 0, 1) := by decide +kernel
theorem dX3_readReason_21 : decode cX3_readReason 21 = .ok (.getfield 14, 3) := by decide +kernel
theorem dX3_readReason_24 : decode cX3_readReason 24 = .ok (.getfield 72, 3) := by decide +kernel
theorem dX3_readReason_27 : decode cX3_readReason 27 = .ok (.aload_n 0, 1) := by decide +kernel
theorem dX3_readReason_28 : decode cX3_readReason 28 = .ok (.getfield 38, 3) := by decide +kernel
theorem dX3_readReason_31 : decode cX3_readReason 31 = .ok (.if_icmp .lt 9, 3) := by decide +kernel
theorem dX3_readReason_34 : decode cX3_readReason 34 = .ok (.aload_n 0, 1) := by decide +kernel
theorem dX3_readReason_35 : decode cX3_readReason 35 = .ok (.iconst 3, 1) := by decide +kernel
theorem dX3_readReason_36 : decode cX3_readReason 36 = .ok (.iload_n 1, 1) := by decide +kernel
theorem dX3_readReason_37 : decode cX3_readReason 37 = .ok (.invokevirtual 75, 3) := by decide +kernel
theorem dX3_readReason_40 : decode cX3_readReason 40 = .ok (.aload_n 0, 1) := by decide +kernel
theorem dX3_readReason_41 : decode cX3_readReason 41 = .ok (.getfield 32, 3) := by decide +kernel
theorem dX3_readReason_44 : decode cX3_readReason 44 = .ok (.ifCond .eq 4, 3) := by decide +kernel
theorem dX3_readReason_47 : decode cX3_readReason 47 = .ok (.return_, 1) := by decide +kernel
theorem dX3_readReason_48 : decode cX3_readReason 48 = .ok (.aload_n 0, 1) := by decide +kernel
theorem dX3_readReason_49 : decode cX3_readReason 49 = .ok (.invokevirtual 52, 3) := by decide +kernel
theorem dX3_readReason_52 : decode cX3_readReason 52 = .ok (.bipush 17, 2) := by decide +kernel
theorem dX3_readReason_54 : decode cX3_readReason 54 = .ok (.if_icmp .ne 31, 3) := by decide +kernel
theorem dX3_readReason_57 : decode cX3_readReason 57 = .ok (.aload_n 0, 1) := by decide +kernel
theorem dX3_readReason_58 : decode cX3_readReason 58 = .ok (.dup, 1) := by decide +kernel
theorem dX3_readReason_59 : decode cX3_readReason 59 = .ok (.getfield 41, 3) := by decide +kernel
theorem dX3_readReason_62 : decode cX3_readReason 62 = .ok (.iconst 1, 1) := by decide +kernel
theorem dX3_readReason_63 : decode cX3_readReason 63 = .ok (.iadd, 1) := by decide +kernel
theorem dX3_readReason_64 : decode cX3_readReason 64 = .ok (.putfield 41, 3) := by decide +kernel
theorem dX3_readReason_67 : decode cX3_readReason 67 = .ok (.aload_n 0, 1) := by decide +kernel
theorem dX3_readReason_68 : decode cX3_readReason 68 = .ok (.iload_n 2, 1) := by decide +kernel
theorem dX3_readReason_69 : decode cX3_readReason 69 = .ok (.invokevirtual 78, 3) := by decide +kernel
theorem dX3_readReason_72 : decode cX3_readReason 72 = .ok (.istore_n 3, 1) := by decide +kernel
theorem dX3_readReason_73 : decode cX3_readReason 73 = .ok (.aload_n 0, 1) := by decide +kernel
theorem dX3_readReason_74 : decode cX3_readReason 74 = .ok (.iload_n 2, 1) := by decide +kernel
theorem dX3_readReason_75 : decode cX3_readReason 75 = .ok (.iconst 1, 1) := by decide +kernel
theorem dX3_readReason_76 : decode cX3_readReason 76 = .ok (.iload_n 3, 1) := by decide +kernel
theorem dX3_readReason_77 : decode cX3_readReason 77 = .ok (.ishl, 1) := by decide +kernel
theorem dX3_readReason_78 : decode cX3_readReason 78 = .ok (.iconst 0, 1) := by decide +kernel
theorem dX3_readReason_79 : decode cX3_readReason 79 = .ok (.iconst 0, 1) := by decide +kernel
theorem dX3_readReason_80 : decode cX3_readReason 80 = .ok (.iconst 0, 1) := by decide +kernel
theorem dX3_readReason_81 : decode cX3_readReason 81 = .ok (.invokevirtual 82, 3) := by decide +kernel
theorem dX3_readReason_84 : decode cX3_readReason 84 = .ok (.return_, 1) := by decide +kernel
theorem dX3_readReason_85 : decode cX3_readReason 85 = .ok (.aload_n 0, 1) := by decide +kernel
theorem dX3_readReason_86 : decode cX3_readReason 86 = .ok (.bipush 15, 2) := by decide +kernel
theorem dX3_readReason_88 : decode cX3_readReason 88 = .ok (.invokevirtual 86, 3) := by decide +kernel
theorem dX3_readReason_91 : decode cX3_readReason 91 = .ok (.iconst 1, 1) := by decide +kernel
theorem dX3_readReason_92 : decode cX3_readReason 92 = .ok (.aload_n 0, 1) := by decide +kernel
theorem dX3_readReason_93 : decode cX3_readReason 93 = .ok (.iload_n 2, 1) := by decide +kernel
theorem dX3_readReason_94 : decode cX3_readReason 94 = .ok (.invokevirtual 78, 3) := by decide +kernel
theorem dX3_readReason_97 : decode cX3_readReason 97 = .ok (.ishl, 1) := by decide +kernel
theorem dX3_readReason_98 : decode cX3_readReason 98 = .ok (.istore_n 3, 1) := by decide +kernel
theorem dX3_readReason_99 : decode cX3_readReason 99 = .ok (.iconst 0, 1) := by decide +kernel
theorem dX3_readReason_100 : decode cX3_readReason 100 = .ok (.istore 4, 2) := by decide +kernel
theorem dX3_readReason_102 : decode cX3_readReason 102 = .ok (.iload 4, 2) := by decide +kernel
theorem dX3_readReason_104 : decode cX3_readReason 104 = .ok (.sipush 400, 3) := by decide +kernel
theorem dX3_readReason_107 : decode cX3_readReason 107 = .ok (.if_icmp .ge 45, 3) := by decide +kernel
theorem dX3_readReason_110 : decode cX3_readReason 110 = .ok (.aload_n 0, 1) := by decide +kernel
theorem dX3_readReason_111 : decode cX3_readReason 111 = .ok (.getfield 32, 3) := by decide +kernel
theorem dX3_readReason_114 : decode cX3_readReason 114 = .ok (.ifCond .ne 38, 3) := by decide +kernel
theorem dX3_readReason_117 : decode cX3_readReason 117 = .ok (.aload_n 0, 1) := by decide +kernel
theorem dX3_readReason_118 : decode cX3_readReason 118 = .ok (.invokevirtual 52, 3) := by decide +kernel
theorem dX3_readReason_121 : decode cX3_readReason 121 = .ok (.bipush 13, 2) := by decide +kernel
theorem dX3_readReason_123 : decode cX3_readReason 123 = .ok (.if_icmp .ne 29, 3) := by decide +kernel
theorem dX3_readReason_126 : decode cX3_readReason 126 = .ok (.aload_n 0, 1) := by decide +kernel
theorem dX3_readReason_127 : decode cX3_readReason 127 = .ok (.dup, 1) := by decide +kernel
theorem dX3_readReason_128 : decode cX3_readReason 128 = .ok (.getfield 41, 3) := by decide +kernel
theorem dX3_readReason_131 : decode cX3_readReason 131 = .ok (.iconst 1, 1) := by decide +kernel
theorem dX3_readReason_132 : decode cX3_readReason 132 = .ok (.iadd, 1) := by decide +kernel
theorem dX3_readReason_133 : decode cX3_readReason 133 = .ok (.putfield 41, 3) := by decide +kernel
theorem dX3_readReason_136 : decode cX3_readReason 136 = .ok (.iload_n 3, 1) := by decide +kernel
theorem dX3_readReason_137 : decode cX3_readReason 137 = .ok (.iconst 1, 1) := by decide +kernel
theorem dX3_readReason_138 : decode cX3_readReason 138 = .ok (.aload_n 0, 1) := by decide +kernel
theorem dX3_readReason_139 : decode cX3_readReason 139 = .ok (.iload_n 2, 1) := by decide +kernel
theorem dX3_readReason_140 : decode cX3_readReason 140 = .ok (.invokevirtual 78, 3) := by decide +kernel
theorem dX3_readReason_143 : decode cX3_readReason 143 = .ok (.ishl, 1) := by decide +kernel
theorem dX3_readReason_144 : decode cX3_readReason 144 = .ok (.ior, 1) := by decide +kernel
theorem dX3_readReason_145 : decode cX3_readReason 145 = .ok (.istore_n 3, 1) := by decide +kernel
theorem dX3_readReason_146 : decode cX3_readReason 146 = .ok (.iinc 4 1, 3) := by decide +kernel
theorem dX3_readReason_149 : decode cX3_readReason 149 = .ok (.goto (-47), 3) := by decide +kernel
theorem dX3_readReason_152 : decode cX3_readReason 152 = .ok (.aload_n 0, 1) := by decide +kernel
theorem dX3_readReason_153 : decode cX3_readReason 153 = .ok (.bipush 16, 2) := by decide +kernel
theorem dX3_readReason_155 : decode cX3_readReason 155 = .ok (.invokevirtual 86, 3) := by decide +kernel
theorem dX3_readReason_158 : decode cX3_readReason 158 = .ok (.aload_n 0, 1) := by decide +kernel
theorem dX3_readReason_159 : decode cX3_readReason 159 = .ok (.iconst 1, 1) := by decide +kernel
theorem dX3_readReason_160 : decode cX3_readReason 160 = .ok (.bipush 100, 2) := by decide +kernel
theorem dX3_readReason_162 : decode cX3_readReason 162 = .ok (.invokevirtual 68, 3) := by decide +kernel
theorem dX3_readReason_165 : decode cX3_readReason 165 = .ok (.istore 4, 2) := by decide +kernel
theorem dX3_readReason_167 : decode cX3_readReason 167 = .ok (.aload_n 0, 1) := by decide +kernel
theorem dX3_readReason_168 : decode cX3_readReason 168 = .ok (.iload_n 2, 1) := by decide +kernel
theorem dX3_readReason_169 : decode cX3_readReason 169 = .ok (.iload_n 3, 1) := by decide +kernel
theorem dX3_readReason_170 : decode cX3_readReason 170 = .ok (.iload 4, 2) := by decide +kernel
theorem dX3_readReason_172 : decode cX3_readReason 172 = .ok (.iconst 0, 1) := by decide +kernel
theorem dX3_readReason_173 : decode cX3_readReason 173 = .ok (.iconst 0, 1) := by decide +kernel
theorem dX3_readReason_174 : decode cX3_readReason 174 = .ok (.invokevirtual 82, 3) := by decide +kernel
theorem dX3_readReason_177 : decode cX3_readReason 177 = .ok (.return_, 1) := by decide +kernel
theorem dX3_another_0 : decode cX3_another 0 = .ok (.aload_n 0, 1) := by decide +kernel
theorem dX3_another_1 : decode cX3_another 1 = .ok (.getfield 41, 3) := by decide +kernel
theorem dX3_another_4 : decode cX3_another 4 = .ok (.istore_n 2, 1) := by decide +kernel
theorem dX3_another_5 : decode cX3_another 5 = .ok (.aload_n 0, 1) := by decide +kernel
theorem dX3_another_6 : decode cX3_another 6 = .ok (.iconst 0, 1) := by decide +kernel
theorem dX3_another_7 : decode cX3_another 7 = .ok (.bipush 7, 2) := by decide +kernel
theorem dX3_another_9 : decode cX3_another 9 = .ok (.invokevirtual 68, 3) := by decide +kernel
theorem dX3_another_12 : decode cX3_another 12 = .ok (.istore_n 3, 1) := by decide +kernel
theorem dX3_another_13 : decode cX3_another 13 = .ok (.aload_n 0, 1) := by decide +kernel
theorem dX3_another_14 : decode cX3_another 14 = .ok (.getfield 32, 3) := by decide +kernel
theorem dX3_another_17 : decode cX3_another 17 = .ok (.ifCond .ne 14, 3) := by decide +kernel
theorem dX3_another_20 : decode cX3_another 20 = .ok (.iload_n 3, 1) := by decide +kernel
theorem dX3_another_21 : decode cX3_another 21 = .ok (.iload_n 1, 1) := by decide +kernel
theorem dX3_another_22 : decode cX3_another 22 = .ok (.if_icmp .ne 9, 3) := by decide +kernel
theorem dX3_another_25 : decode cX3_another 25 = .ok (.aload_n 0, 1) := by decide +kernel
theorem dX3_another_26 : decode cX3_another 26 = .ok (.iconst 2, 1) := by decide +kernel
theorem dX3_another_27 : decode cX3_another 27 = .ok (.iload_n 2, 1) := by decide +kernel
theorem dX3_another_28 : decode cX3_another 28 = .ok (.invokevirtual 75, 3) := by decide +kernel
theorem dX3_another_31 : decode cX3_another 31 = .ok (.iload_n 3, 1) := by decide +kernel
theorem dX3_another_32 : decode cX3_another 32 = .ok (.ireturn, 1) := by decide +kernel
theorem dX3_readLaw_0 : decode cX3_readLaw 0 = .ok (.aload_n 0, 1) := by decide +kernel
theorem dX3_readLaw_1 : decode cX3_readLaw 1 = .ok (.invokevirtual 52, 3) := by decide +kernel
theorem dX3_readLaw_4 : decode cX3_readLaw 4 = .ok (.istore_n 1, 1) := by decide +kernel
theorem dX3_readLaw_5 : decode cX3_readLaw 5 = .ok (.aload_n 0, 1) := by decide +kernel
theorem dX3_readLaw_6 : decode cX3_readLaw 6 = .ok (.iload_n 1, 1) := by decide +kernel
theorem dX3_readLaw_7 : decode cX3_readLaw 7 = .ok (.bipush 8, 2) := by decide +kernel
theorem dX3_readLaw_9 : decode cX3_readLaw 9 = .ok (.if_icmp .lt 13, 3) := by decide +kernel
theorem dX3_readLaw_12 : decode cX3_readLaw 12 = .ok (.iload_n 1, 1) := by decide +kernel
theorem dX3_readLaw_13 : decode cX3_readLaw 13 = .ok (.bipush 10, 2) := by decide +kernel
theorem dX3_readLaw_15 : decode cX3_readLaw 15 = .ok (.if_icmp .gt 7, 3) := by decide +kernel
theorem dX3_readLaw_18 : decode cX3_readLaw 18 = .ok (.iconst 1, 1) := by decide +kernel
theorem dX3_readLaw_19 : decode cX3_readLaw 19 = .ok (.goto 4, 3) := by decide +kernel
theorem dX3_readLaw_22 : decode cX3_readLaw 22 = .ok (.iconst 0, 1) := by decide +kernel
theorem dX3_readLaw_23 : decode cX3_readLaw 23 = .ok (.invokevirtual 90, 3) := by decide +kernel
theorem dX3_readLaw_26 : decode cX3_readLaw 26 = .ok (.aload_n 0, 1) := by decide +kernel
theorem dX3_readLaw_27 : decode cX3_readLaw 27 = .ok (.getfield 14, 3) := by decide +kernel
theorem dX3_readLaw_30 : decode cX3_readLaw 30 = .ok (.getfield 94, 3) := by decide +kernel
theorem dX3_readLaw_33 : decode cX3_readLaw 33 = .ok (.istore_n 2, 1) := by decide +kernel
theorem dX3_readLaw_34 : decode cX3_readLaw 34 = .ok (.aload_n 0, 1) := by decide +kernel
theorem dX3_readLaw_35 : decode cX3_readLaw 35 = .ok (.invokevirtual 97, 3) := by decide +kernel
theorem dX3_readLaw_38 : decode cX3_readLaw 38 = .ok (.aload_n 0, 1) := by decide +kernel
theorem dX3_readLaw_39 : decode cX3_readLaw 39 = .ok (.getfield 14, 3) := by decide +kernel
theorem dX3_readLaw_42 : decode cX3_readLaw 42 = .ok (.getfield 94, 3) := by decide +kernel
theorem dX3_readLaw_45 : decode cX3_readLaw 45 = .ok (.istore_n 3, 1) := by decide +kernel
theorem dX3_readLaw_46 : decode cX3_readLaw 46 = .ok (.aload_n 0, 1) := by decide +kernel
theorem dX3_readLaw_47 : decode cX3_readLaw 47 = .ok (.getfield 32, 3) := by decide +kernel
theorem dX3_readLaw_50 : decode cX3_readLaw 50 = .ok (.ifCond .ne 26, 3) := by decide +kernel
theorem dX3_readLaw_53 : decode cX3_readLaw 53 = .ok (.aload_n 0, 1) := by decide +kernel
theorem dX3_readLaw_54 : decode cX3_readLaw 54 = .ok (.invokevirtual 52, 3) := by decide +kernel
theorem dX3_readLaw_57 : decode cX3_readLaw 57 = .ok (.bipush 11, 2) := by decide +kernel
theorem dX3_readLaw_59 : decode cX3_readLaw 59 = .ok (.if_icmp .ne 17, 3) := by decide +kernel
theorem dX3_readLaw_62 : decode cX3_readLaw 62 = .ok (.aload_n 0, 1) := by decide +kernel
theorem dX3_readLaw_63 : decode cX3_readLaw 63 = .ok (.dup, 1) := by decide +kernel
theorem dX3_readLaw_64 : decode cX3_readLaw 64 = .ok (.getfield 41, 3) := by decide +kernel
theorem dX3_readLaw_67 : decode cX3_readLaw 67 = .ok (.iconst 1, 1) := by decide +kernel
theorem dX3_readLaw_68 : decode cX3_readLaw 68 = .ok (.iadd, 1) := by decide +kernel
theorem dX3_readLaw_69 : decode cX3_readLaw 69 = .ok (.putfield 41, 3) := by decide +kernel
theorem dX3_readLaw_72 : decode cX3_readLaw 72 = .ok (.aload_n 0, 1) := by decide +kernel
theorem dX3_readLaw_73 : decode cX3_readLaw 73 = .ok (.invokevirtual 100, 3) := by decide +kernel
theorem dX3_readLaw_76 : decode cX3_readLaw 76 = .ok (.aload_n 0, 1) := by decide +kernel
theorem dX3_readLaw_77 : decode cX3_readLaw 77 = .ok (.iload_n 1, 1) := by decide +kernel
theorem dX3_readLaw_78 : decode cX3_readLaw 78 = .ok (.iload_n 2, 1) := by decide +kernel
theorem dX3_readLaw_79 : decode cX3_readLaw 79 = .ok (.iload_n 3, 1) := by decide +kernel
theorem dX3_readLaw_80 : decode cX3_readLaw 80 = .ok (.aload_n 0, 1) := by decide +kernel
theorem dX3_readLaw_81 : decode cX3_readLaw 81 = .ok (.getfield 14, 3) := by decide +kernel
theorem dX3_readLaw_84 : decode cX3_readLaw 84 = .ok (.getfield 94, 3) := by decide +kernel
theorem dX3_readLaw_87 : decode cX3_readLaw 87 = .ok (.iconst 0, 1) := by decide +kernel
theorem dX3_readLaw_88 : decode cX3_readLaw 88 = .ok (.invokevirtual 82, 3) := by decide +kernel
theorem dX3_readLaw_91 : decode cX3_readLaw 91 = .ok (.return_, 1) := by decide +kernel
theorem dX3_readWork_0 : decode cX3_readWork 0 = .ok (.aload_n 0, 1) := by decide +kernel
theorem dX3_readWork_1 : decode cX3_readWork 1 = .ok (.aload_n 0, 1) := by decide +kernel
theorem dX3_readWork_2 : decode cX3_readWork 2 = .ok (.invokevirtual 52, 3) := by decide +kernel
theorem dX3_readWork_5 : decode cX3_readWork 5 = .ok (.bipush 18, 2) := by decide +kernel
theorem dX3_readWork_7 : decode cX3_readWork 7 = .ok (.if_icmp .ne 7, 3) := by decide +kernel
theorem dX3_readWork_10 : decode cX3_readWork 10 = .ok (.iconst 1, 1) := by decide +kernel
theorem dX3_readWork_11 : decode cX3_readWork 11 = .ok (.goto 4, 3) := by decide +kernel
theorem dX3_readWork_14 : decode cX3_readWork 14 = .ok (.iconst 0, 1) := by decide +kernel
theorem dX3_readWork_15 : decode cX3_readWork 15 = .ok (.invokevirtual 90, 3) := by decide +kernel
theorem dX3_readWork_18 : decode cX3_readWork 18 = .ok (.aload_n 0, 1) := by decide +kernel
theorem dX3_readWork_19 : decode cX3_readWork 19 = .ok (.iconst 0, 1) := by decide +kernel
theorem dX3_readWork_20 : decode cX3_readWork 20 = .ok (.aload_n 0, 1) := by decide +kernel
theorem dX3_readWork_21 : decode cX3_readWork 21 = .ok (.getfield 35, 3) := by decide +kernel
theorem dX3_readWork_24 : decode cX3_readWork 24 = .ok (.iconst 1, 1) := by decide +kernel
theorem dX3_readWork_25 : decode cX3_readWork 25 = .ok (.isub, 1) := by decide +kernel
theorem dX3_readWork_26 : decode cX3_readWork 26 = .ok (.invokevirtual 68, 3) := by decide +kernel
theorem dX3_readWork_29 : decode cX3_readWork 29 = .ok (.istore_n 1, 1) := by decide +kernel
theorem dX3_readWork_30 : decode cX3_readWork 30 = .ok (.aload_n 0, 1) := by decide +kernel
theorem dX3_readWork_31 : decode cX3_readWork 31 = .ok (.invokevirtual 52, 3) := by decide +kernel
theorem dX3_readWork_34 : decode cX3_readWork 34 = .ok (.bipush 19, 2) := by decide +kernel
theorem dX3_readWork_36 : decode cX3_readWork 36 = .ok (.if_icmp .ne 7, 3) := by decide +kernel
theorem dX3_readWork_39 : decode cX3_readWork 39 = .ok (.iconst 1, 1) := by decide +kernel
theorem dX3_readWork_40 : decode cX3_readWork 40 = .ok (.goto 4, 3) := by decide +kernel
theorem dX3_readWork_43 : decode cX3_readWork 43 = .ok (.iconst 0, 1) := by decide +kernel
theorem dX3_readWork_44 : decode cX3_readWork 44 = .ok (.istore_n 2, 1) := by decide +kernel
theorem dX3_readWork_45 : decode cX3_readWork 45 = .ok (.aload_n 0, 1) := by decide +kernel
theorem dX3_readWork_46 : decode cX3_readWork 46 = .ok (.iload_n 2, 1) := by decide +kernel
theorem dX3_readWork_47 : decode cX3_readWork 47 = .ok (.ifCond .eq 8, 3) := by decide +kernel
theorem dX3_readWork_50 : decode cX3_readWork 50 = .ok (.bipush 19, 2) := by decide +kernel
theorem dX3_readWork_52 : decode cX3_readWork 52 = .ok (.goto 5, 3) := by decide +kernel
theorem dX3_readWork_55 : decode cX3_readWork 55 = .ok (.bipush 20, 2) := by decide +kernel
theorem dX3_readWork_57 : decode cX3_readWork 57 = .ok (.invokevirtual 86, 3) := by decide +kernel
theorem dX3_readWork_60 : decode cX3_readWork 60 = .ok (.aload_n 0, 1) := by decide +kernel
theorem dX3_readWork_61 : decode cX3_readWork 61 = .ok (.iconst 0, 1) := by decide +kernel
theorem dX3_readWork_62 : decode cX3_readWork 62 = .ok (.bipush 7, 2) := by decide +kernel
theorem dX3_readWork_64 : decode cX3_readWork 64 = .ok (.invokevirtual 68, 3) := by decide +kernel
theorem dX3_readWork_67 : decode cX3_readWork 67 = .ok (.istore_n 3, 1) := by decide +kernel
theorem dX3_readWork_68 : decode cX3_readWork 68 = .ok (.aload_n 0, 1) := by decide +kernel
theorem dX3_readWork_69 : decode cX3_readWork 69 = .ok (.iload_n 1, 1) := by decide +kernel
theorem dX3_readWork_70 : decode cX3_readWork 70 = .ok (.iload_n 2, 1) := by decide +kernel
theorem dX3_readWork_71 : decode cX3_readWork 71 = .ok (.ifCond .eq 7, 3) := by decide +kernel
theorem dX3_readWork_74 : decode cX3_readWork 74 = .ok (.iconst 1, 1) := by decide +kernel
theorem dX3_readWork_75 : decode cX3_readWork 75 = .ok (.goto 4, 3) := by decide +kernel
theorem dX3_readWork_78 : decode cX3_readWork 78 = .ok (.iconst 0, 1) := by decide +kernel
theorem dX3_readWork_79 : decode cX3_readWork 79 = .ok (.iload_n 3, 1) := by decide +kernel
theorem dX3_readWork_80 : decode cX3_readWork 80 = .ok (.iconst 0, 1) := by decide +kernel
theorem dX3_readWork_81 : decode cX3_readWork 81 = .ok (.iconst 0, 1) := by decide +kernel
theorem dX3_readWork_82 : decode cX3_readWork 82 = .ok (.invokevirtual 82, 3) := by decide +kernel
theorem dX3_readWork_85 : decode cX3_readWork 85 = .ok (.return_, 1) := by decide +kernel
theorem dX3_readPlan_0 : decode cX3_readPlan 0 = .ok (.aload_n 0, 1) := by decide +kernel
theorem dX3_readPlan_1 : decode cX3_readPlan 1 = .ok (.aload_n 0, 1) := by decide +kernel
theorem dX3_readPlan_2 : decode cX3_readPlan 2 = .ok (.invokevirtual 52, 3) := by decide +kernel
theorem dX3_readPlan_5 : decode cX3_readPlan 5 = .ok (.bipush 21, 2) := by decide +kernel
theorem dX3_readPlan_7 : decode cX3_readPlan 7 = .ok (.if_icmp .ne 7, 3) := by decide +kernel
theorem dX3_readPlan_10 : decode cX3_readPlan 10 = .ok (.iconst 1, 1) := by decide +kernel
theorem dX3_readPlan_11 : decode cX3_readPlan 11 = .ok (.goto 4, 3) := by decide +kernel
theorem dX3_readPlan_14 : decode cX3_readPlan 14 = .ok (.iconst 0, 1) := by decide +kernel
theorem dX3_readPlan_15 : decode cX3_readPlan 15 = .ok (.invokevirtual 90, 3) := by decide +kernel
theorem dX3_readPlan_18 : decode cX3_readPlan 18 = .ok (.aload_n 0, 1) := by decide +kernel
theorem dX3_readPlan_19 : decode cX3_readPlan 19 = .ok (.iconst 0, 1) := by decide +kernel
theorem dX3_readPlan_20 : decode cX3_readPlan 20 = .ok (.sipush 999, 3) := by decide +kernel
theorem dX3_readPlan_23 : decode cX3_readPlan 23 = .ok (.invokevirtual 68, 3) := by decide +kernel
theorem dX3_readPlan_26 : decode cX3_readPlan 26 = .ok (.istore_n 1, 1) := by decide +kernel
theorem dX3_readPlan_27 : decode cX3_readPlan 27 = .ok (.aload_n 0, 1) := by decide +kernel
theorem dX3_readPlan_28 : decode cX3_readPlan 28 = .ok (.invokevirtual 52, 3) := by decide +kernel
theorem dX3_readPlan_31 : decode cX3_readPlan 31 = .ok (.istore_n 2, 1) := by decide +kernel
theorem dX3_readPlan_32 : decode cX3_readPlan 32 = .ok (.iload_n 2, 1) := by decide +kernel
theorem dX3_readPlan_33 : decode cX3_readPlan 33 = .ok (.bipush 22, 2) := by decide +kernel
theorem dX3_readPlan_35 : decode cX3_readPlan 35 = .ok (.if_icmp .eq 20, 3) := by decide +kernel
theorem dX3_readPlan_38 : decode cX3_readPlan 38 = .ok (.iload_n 2, 1) := by decide +kernel
theorem dX3_readPlan_39 : decode cX3_readPlan 39 = .ok (.iconst 2, 1) := by decide +kernel
theorem dX3_readPlan_40 : decode cX3_readPlan 40 = .ok (.if_icmp .eq 15, 3) := by decide +kernel
theorem dX3_readPlan_43 : decode cX3_readPlan 43 = .ok (.iload_n 2, 1) := by decide +kernel
theorem dX3_readPlan_44 : decode cX3_readPlan 44 = .ok (.bipush 25, 2) := by decide +kernel
theorem dX3_readPlan_46 : decode cX3_readPlan 46 = .ok (.if_icmp .eq 9, 3) := by decide +kernel
theorem dX3_readPlan_49 : decode cX3_readPlan 49 = .ok (.iload_n 2, 1) := by decide +kernel
theorem dX3_readPlan_50 : decode cX3_readPlan 50 = .ok (.bipush 26, 2) := by decide +kernel
theorem dX3_readPlan_52 : decode cX3_readPlan 52 = .ok (.if_icmp .ne 7, 3) := by decide +kernel
theorem dX3_readPlan_55 : decode cX3_readPlan 55 = .ok (.iconst 1, 1) := by decide +kernel
theorem dX3_readPlan_56 : decode cX3_readPlan 56 = .ok (.goto 4, 3) := by decide +kernel
theorem dX3_readPlan_59 : decode cX3_readPlan 59 = .ok (.iconst 0, 1) := by decide +kernel
theorem dX3_readPlan_60 : decode cX3_readPlan 60 = .ok (.istore_n 3, 1) := by decide +kernel
theorem dX3_readPlan_61 : decode cX3_readPlan 61 = .ok (.aload_n 0, 1) := by decide +kernel
theorem dX3_readPlan_62 : decode cX3_readPlan 62 = .ok (.iload_n 3, 1) := by decide +kernel
theorem dX3_readPlan_63 : decode cX3_readPlan 63 = .ok (.ifCond .eq 7, 3) := by decide +kernel
theorem dX3_readPlan_66 : decode cX3_readPlan 66 = .ok (.iload_n 2, 1) := by decide +kernel
theorem dX3_readPlan_67 : decode cX3_readPlan 67 = .ok (.goto 5, 3) := by decide +kernel
theorem dX3_readPlan_70 : decode cX3_readPlan 70 = .ok (.bipush 22, 2) := by decide +kernel
theorem dX3_readPlan_72 : decode cX3_readPlan 72 = .ok (.invokevirtual 86, 3) := by decide +kernel
theorem dX3_readPlan_75 : decode cX3_readPlan 75 = .ok (.aload_n 0, 1) := by decide +kernel
theorem dX3_readPlan_76 : decode cX3_readPlan 76 = .ok (.iconst 0, 1) := by decide +kernel
theorem dX3_readPlan_77 : decode cX3_readPlan 77 = .ok (.aload_n 0, 1) := by decide +kernel
theorem dX3_readPlan_78 : decode cX3_readPlan 78 = .ok (.getfield 35, 3) := by decide +kernel
theorem dX3_readPlan_81 : decode cX3_readPlan 81 = .ok (.iconst 1, 1) := by decide +kernel
theorem dX3_readPlan_82 : decode cX3_readPlan 82 = .ok (.isub, 1) := by decide +kernel
theorem dX3_readPlan_83 : decode cX3_readPlan 83 = .ok (.invokevirtual 68, 3) := by decide +kernel
theorem dX3_readPlan_86 : decode cX3_readPlan 86 = .ok (.istore 4, 2) := by decide +kernel
theorem dX3_readPlan_88 : decode cX3_readPlan 88 = .ok (.iconst 0, 1) := by decide +kernel
theorem dX3_readPlan_89 : decode cX3_readPlan 89 = .ok (.istore 5, 2) := by decide +kernel
theorem dX3_readPlan_91 : decode cX3_readPlan 91 = .ok (.iconst 0, 1) := by decide +kernel
theorem dX3_readPlan_92 : decode cX3_readPlan 92 = .ok (.istore 6, 2) := by decide +kernel
theorem dX3_readPlan_94 : decode cX3_readPlan 94 = .ok (.iload_n 2, 1) := by decide +kernel
theorem dX3_readPlan_95 : decode cX3_readPlan 95 = .ok (.bipush 22, 2) := by decide +kernel
theorem dX3_readPlan_97 : decode cX3_readPlan 97 = .ok (.if_icmp .eq 9, 3) := by decide +kernel
theorem dX3_readPlan_100 : decode cX3_readPlan 100 = .ok (.iload_n 2, 1) := by decide +kernel
theorem dX3_readPlan_101 : decode cX3_readPlan 101 = .ok (.bipush 26, 2) := by decide +kernel
theorem dX3_readPlan_103 : decode cX3_readPlan 103 = .ok (.if_icmp .ne 57, 3) := by decide +kernel
theorem dX3_readPlan_106 : decode cX3_readPlan 106 = .ok (.aload_n 0, 1) := by decide +kernel
theorem dX3_readPlan_107 : decode cX3_readPlan 107 = .ok (.bipush 23, 2) := by decide +kernel
theorem dX3_readPlan_109 : decode cX3_readPlan 109 = .ok (.invokevirtual 86, 3) := by decide +kernel
theorem dX3_readPlan_112 : decode cX3_readPlan 112 = .ok (.aload_n 0, 1) := by decide +kernel
theorem dX3_readPlan_113 : decode cX3_readPlan 113 = .ok (.iconst 0, 1) := by decide +kernel
theorem dX3_readPlan_114 : decode cX3_readPlan 114 = .ok (.bipush 7, 2) := by decide +kernel
theorem dX3_readPlan_116 : decode cX3_readPlan 116 = .ok (.invokevirtual 68, 3) := by decide +kernel
theorem dX3_readPlan_119 : decode cX3_readPlan 119 = .ok (.istore 5, 2) := by decide +kernel
theorem dX3_readPlan_121 : decode cX3_readPlan 121 = .ok (.aload_n 0, 1) := by decide +kernel
theorem dX3_readPlan_122 : decode cX3_readPlan 122 = .ok (.iload_n 2, 1) := by decide +kernel
theorem dX3_readPlan_123 : decode cX3_readPlan 123 = .ok (.bipush 22, 2) := by decide +kernel
theorem dX3_readPlan_125 : decode cX3_readPlan 125 = .ok (.if_icmp .ne 7, 3) := by decide +kernel
theorem dX3_readPlan_128 : decode cX3_readPlan 128 = .ok (.iconst 1, 1) := by decide +kernel
theorem dX3_readPlan_129 : decode cX3_readPlan 129 = .ok (.goto 5, 3) := by decide +kernel
theorem dX3_readPlan_132 : decode cX3_readPlan 132 = .ok (.bipush 27, 2) := by decide +kernel
theorem dX3_readPlan_134 : decode cX3_readPlan 134 = .ok (.invokevirtual 86, 3) := by decide +kernel
theorem dX3_readPlan_137 : decode cX3_readPlan 137 = .ok (.aload_n 0, 1) := by decide +kernel
theorem dX3_readPlan_138 : decode cX3_readPlan 138 = .ok (.iconst 0, 1) := by decide +kernel
theorem dX3_readPlan_139 : decode cX3_readPlan 139 = .ok (.iload_n 2, 1) := by decide +kernel
theorem dX3_readPlan_140 : decode cX3_readPlan 140 = .ok (.bipush 22, 2) := by decide +kernel
theorem dX3_readPlan_142 : decode cX3_readPlan 142 = .ok (.if_icmp .ne 8, 3) := by decide +kernel
theorem dX3_readPlan_145 : decode cX3_readPlan 145 = .ok (.bipush 9, 2) := by decide +kernel
theorem dX3_readPlan_147 : decode cX3_readPlan 147 = .ok (.goto 5, 3) := by decide +kernel
theorem dX3_readPlan_150 : decode cX3_readPlan 150 = .ok (.bipush 100, 2) := by decide +kernel
theorem dX3_readPlan_152 : decode cX3_readPlan 152 = .ok (.invokevirtual 68, 3) := by decide +kernel
theorem dX3_readPlan_155 : decode cX3_readPlan 155 = .ok (.istore 6, 2) := by decide +kernel
theorem dX3_readPlan_157 : decode cX3_readPlan 157 = .ok (.goto 23, 3) := by decide +kernel
theorem dX3_readPlan_160 : decode cX3_readPlan 160 = .ok (.iload_n 2, 1) := by decide +kernel
theorem dX3_readPlan_161 : decode cX3_readPlan 161 = .ok (.iconst 2, 1) := by decide +kernel
theorem dX3_readPlan_162 : decode cX3_readPlan 162 = .ok (.if_icmp .ne 18, 3) := by decide +kernel
theorem dX3_readPlan_165 : decode cX3_readPlan 165 = .ok (.aload_n 0, 1) := by decide +kernel
theorem dX3_readPlan_166 : decode cX3_readPlan 166 = .ok (.bipush 24, 2) := by decide +kernel
theorem dX3_readPlan_168 : decode cX3_readPlan 168 = .ok (.invokevirtual 86, 3) := by decide +kernel
theorem dX3_readPlan_171 : decode cX3_readPlan 171 = .ok (.aload_n 0, 1) := by decide +kernel
theorem dX3_readPlan_172 : decode cX3_readPlan 172 = .ok (.iconst 1, 1) := by decide +kernel
theorem dX3_readPlan_173 : decode cX3_readPlan 173 = .ok (.bipush 99, 2) := by decide +kernel
theorem dX3_readPlan_175 : decode cX3_readPlan 175 = .ok (.invokevirtual 68, 3) := by decide +kernel
theorem dX3_readPlan_178 : decode cX3_readPlan 178 = .ok (.istore 5, 2) := by decide +kernel
theorem dX3_readPlan_180 : decode cX3_readPlan 180 = .ok (.aload_n 0, 1) := by decide +kernel
theorem dX3_readPlan_181 : decode cX3_readPlan 181 = .ok (.iload_n 1, 1) := by decide +kernel
theorem dX3_readPlan_182 : decode cX3_readPlan 182 = .ok (.iload_n 2, 1) := by decide +kernel
theorem dX3_readPlan_183 : decode cX3_readPlan 183 = .ok (.iload 4, 2) := by decide +kernel
theorem dX3_readPlan_185 : decode cX3_readPlan 185 = .ok (.iload 5, 2) := by decide +kernel
theorem dX3_readPlan_187 : decode cX3_readPlan 187 = .ok (.iload 6, 2) := by decide +kernel
theorem dX3_readPlan_189 : decode cX3_readPlan 189 = .ok (.invokevirtual 82, 3) := by decide +kernel
theorem dX3_readPlan_192 : decode cX3_readPlan 192 = .ok (.return_, 1) := by decide +kernel
theorem dX3_begins_0 : decode cX3_begins 0 = .ok (.iload_n 1, 1) := by decide +kernel
theorem dX3_begins_1 : decode cX3_begins 1 = .ok (.ifCond .ne 15, 3) := by decide +kernel
theorem dX3_begins_4 : decode cX3_begins 4 = .ok (.aload_n 0, 1) := by decide +kernel
theorem dX3_begins_5 : decode cX3_begins 5 = .ok (.iconst 1, 1) := by decide +kernel
theorem dX3_begins_6 : decode cX3_begins 6 = .ok (.aload_n 0, 1) := by decide +kernel
theorem dX3_begins_7 : decode cX3_begins 7 = .ok (.getfield 41, 3) := by decide +kernel
theorem dX3_begins_10 : decode cX3_begins 10 = .ok (.invokevirtual 75, 3) := by decide +kernel
theorem dX3_begins_13 : decode cX3_begins 13 = .ok (.goto 39, 3) := by decide +kernel
theorem dX3_begins_16 : decode cX3_begins 16 = .ok (.aload_n 0, 1) := by decide +kernel
theorem dX3_begins_17 : decode cX3_begins 17 = .ok (.getfield 14, 3) := by decide +kernel
theorem dX3_begins_20 : decode cX3_begins 20 = .ok (.getfield 72, 3) := by decide +kernel
theorem dX3_begins_23 : decode cX3_begins 23 = .ok (.aload_n 0, 1) := by decide +kernel
theorem dX3_begins_24 : decode cX3_begins 24 = .ok (.getfield 38, 3) := by decide +kernel
theorem dX3_begins_27 : decode cX3_begins 27 = .ok (.if_icmp .lt 15, 3) := by decide +kernel
theorem dX3_begins_30 : decode cX3_begins 30 = .ok (.aload_n 0, 1) := by decide +kernel
theorem dX3_begins_31 : decode cX3_begins 31 = .ok (.iconst 3, 1) := by decide +kernel
theorem dX3_begins_32 : decode cX3_begins 32 = .ok (.aload_n 0, 1) := by decide +kernel
theorem dX3_begins_33 : decode cX3_begins 33 = .ok (.getfield 41, 3) := by decide +kernel
theorem dX3_begins_36 : decode cX3_begins 36 = .ok (.invokevirtual 75, 3) := by decide +kernel
theorem dX3_begins_39 : decode cX3_begins 39 = .ok (.goto 13, 3) := by decide +kernel
theorem dX3_begins_42 : decode cX3_begins 42 = .ok (.aload_n 0, 1) := by decide +kernel
theorem dX3_begins_43 : decode cX3_begins 43 = .ok (.dup, 1) := by decide +kernel
theorem dX3_begins_44 : decode cX3_begins 44 = .ok (.getfield 41, 3) := by decide +kernel
theorem dX3_begins_47 : decode cX3_begins 47 = .ok (.iconst 1, 1) := by decide +kernel
theorem dX3_begins_48 : decode cX3_begins 48 = .ok (.iadd, 1) := by decide +kernel
theorem dX3_begins_49 : decode cX3_begins 49 = .ok (.putfield 41, 3) := by decide +kernel
theorem dX3_begins_52 : decode cX3_begins 52 = .ok (.return_, 1) := by decide +kernel
theorem dX3_finish_0 : decode cX3_finish 0 = .ok (.aload_n 0, 1) := by decide +kernel
theorem dX3_finish_1 : decode cX3_finish 1 = .ok (.bipush 32, 2) := by decide +kernel
theorem dX3_finish_3 : decode cX3_finish 3 = .ok (.invokevirtual 86, 3) := by decide +kernel
theorem dX3_finish_6 : decode cX3_finish 6 = .ok (.aload_n 0, 1) := by decide +kernel
theorem dX3_finish_7 : decode cX3_finish 7 = .ok (.getfield 32, 3) := by decide +kernel
theorem dX3_finish_10 : decode cX3_finish 10 = .ok (.ifCond .ne 17, 3) := by decide +kernel
theorem dX3_finish_13 : decode cX3_finish 13 = .ok (.aload_n 0, 1) := by decide +kernel
theorem dX3_finish_14 : decode cX3_finish 14 = .ok (.getfield 14, 3) := by decide +kernel
theorem dX3_finish_17 : decode cX3_finish 17 = .ok (.iload_n 1, 1) := by decide +kernel
theorem dX3_finish_18 : decode cX3_finish 18 = .ok (.iload_n 2, 1) := by decide +kernel
theorem dX3_finish_19 : decode cX3_finish 19 = .ok (.iload_n 3, 1) := by decide +kernel
theorem dX3_finish_20 : decode cX3_finish 20 = .ok (.iload 4, 2) := by decide +kernel
theorem dX3_finish_22 : decode cX3_finish 22 = .ok (.iload 5, 2) := by decide +kernel
theorem dX3_finish_24 : decode cX3_finish 24 = .ok (.invokevirtual 103, 3) := by decide +kernel
theorem dX3_finish_27 : decode cX3_finish 27 = .ok (.return_, 1) := by decide +kernel
theorem dX3_readCondition_0 : decode cX3_readCondition 0 = .ok (.aload_n 0, 1) := by decide +kernel
theorem dX3_readCondition_1 : decode cX3_readCondition 1 = .ok (.iconst 0, 1) := by decide +kernel
theorem dX3_readCondition_2 : decode cX3_readCondition 2 = .ok (.putfield 106, 3) := by decide +kernel
theorem dX3_readCondition_5 : decode cX3_readCondition 5 = .ok (.aload_n 0, 1) := by decide +kernel
theorem dX3_readCondition_6 : decode cX3_readCondition 6 = .ok (.iconst 0, 1) := by decide +kernel
theorem dX3_readCondition_7 : decode cX3_readCondition 7 = .ok (.putfield 109, 3) := by decide +kernel
theorem dX3_readCondition_10 : decode cX3_readCondition 10 = .ok (.iconst 1, 1) := by decide +kernel
theorem dX3_readCondition_11 : decode cX3_readCondition 11 = .ok (.istore_n 1, 1) := by decide +kernel
theorem dX3_readCondition_12 : decode cX3_readCondition 12 = .ok (.iconst 0, 1) := by decide +kernel
theorem dX3_readCondition_13 : decode cX3_readCondition 13 = .ok (.istore_n 2, 1) := by decide +kernel
theorem dX3_readCondition_14 : decode cX3_readCondition 14 = .ok (.iload_n 2, 1) := by decide +kernel
theorem dX3_readCondition_15 : decode cX3_readCondition 15 = .ok (.sipush 400, 3) := by decide +kernel
theorem dX3_readCondition_18 : decode cX3_readCondition 18 = .ok (.if_icmp .gt 93, 3) := by decide +kernel
theorem dX3_readCondition_21 : decode cX3_readCondition 21 = .ok (.iload_n 1, 1) := by decide +kernel
theorem dX3_readCondition_22 : decode cX3_readCondition 22 = .ok (.ifCond .eq 89, 3) := by decide +kernel
theorem dX3_readCondition_25 : decode cX3_readCondition 25 = .ok (.aload_n 0, 1) := by decide +kernel
theorem dX3_readCondition_26 : decode cX3_readCondition 26 = .ok (.getfield 32, 3) := by decide +kernel
theorem dX3_readCondition_29 : decode cX3_readCondition 29 = .ok (.ifCond .ne 82, 3) := by decide +kernel
theorem dX3_readCondition_32 : decode cX3_readCondition 32 = .ok (.aload_n 0, 1) := by decide +kernel
theorem dX3_readCondition_33 : decode cX3_readCondition 33 = .ok (.invokevirtual 52, 3) := by decide +kernel
theorem dX3_readCondition_36 : decode cX3_readCondition 36 = .ok (.bipush 14, 2) := by decide +kernel
theorem dX3_readCondition_38 : decode cX3_readCondition 38 = .ok (.if_icmp .eq 12, 3) := by decide +kernel
theorem dX3_readCondition_41 : decode cX3_readCondition 41 = .ok (.aload_n 0, 1) := by decide +kernel
theorem dX3_readCondition_42 : decode cX3_readCondition 42 = .ok (.invokevirtual 52, 3) := by decide +kernel
theorem dX3_readCondition_45 : decode cX3_readCondition 45 = .ok (.bipush 37, 2) := by decide +kernel
theorem dX3_readCondition_47 : decode cX3_readCondition 47 = .ok (.if_icmp .ne 10, 3) := by decide +kernel
theorem dX3_readCondition_50 : decode cX3_readCondition 50 = .ok (.aload_n 0, 1) := by decide +kernel
theorem dX3_readCondition_51 : decode cX3_readCondition 51 = .ok (.invokevirtual 112, 3) := by decide +kernel
theorem dX3_readCondition_54 : decode cX3_readCondition 54 = .ok (.goto 51, 3) := by decide +kernel
theorem dX3_readCondition_57 : decode cX3_readCondition 57 = .ok (.aload_n 0, 1) := by decide +kernel
theorem dX3_readCondition_58 : decode cX3_readCondition 58 = .ok (.invokevirtual 97, 3) := by decide +kernel
theorem dX3_readCondition_61 : decode cX3_readCondition 61 = .ok (.aload_n 0, 1) := by decide +kernel
theorem dX3_readCondition_62 : decode cX3_readCondition 62 = .ok (.invokevirtual 52, 3) := by decide +kernel
theorem dX3_readCondition_65 : decode cX3_readCondition 65 = .ok (.istore_n 3, 1) := by decide +kernel
theorem dX3_readCondition_66 : decode cX3_readCondition 66 = .ok (.aload_n 0, 1) := by decide +kernel
theorem dX3_readCondition_67 : decode cX3_readCondition 67 = .ok (.iload_n 3, 1) := by decide +kernel
theorem dX3_readCondition_68 : decode cX3_readCondition 68 = .ok (.bipush 39, 2) := by decide +kernel
theorem dX3_readCondition_70 : decode cX3_readCondition 70 = .ok (.if_icmp .lt 13, 3) := by decide +kernel
theorem dX3_readCondition_73 : decode cX3_readCondition 73 = .ok (.iload_n 3, 1) := by decide +kernel
theorem dX3_readCondition_74 : decode cX3_readCondition 74 = .ok (.bipush 41, 2) := by decide +kernel
theorem dX3_readCondition_76 : decode cX3_readCondition 76 = .ok (.if_icmp .gt 7, 3) := by decide +kernel
theorem dX3_readCondition_79 : decode cX3_readCondition 79 = .ok (.iload_n 3, 1) := by decide +kernel
theorem dX3_readCondition_80 : decode cX3_readCondition 80 = .ok (.goto 5, 3) := by decide +kernel
theorem dX3_readCondition_83 : decode cX3_readCondition 83 = .ok (.bipush 40, 2) := by decide +kernel
theorem dX3_readCondition_85 : decode cX3_readCondition 85 = .ok (.invokevirtual 86, 3) := by decide +kernel
theorem dX3_readCondition_88 : decode cX3_readCondition 88 = .ok (.aload_n 0, 1) := by decide +kernel
theorem dX3_readCondition_89 : decode cX3_readCondition 89 = .ok (.invokevirtual 97, 3) := by decide +kernel
theorem dX3_readCondition_92 : decode cX3_readCondition 92 = .ok (.aload_n 0, 1) := by decide +kernel
theorem dX3_readCondition_93 : decode cX3_readCondition 93 = .ok (.getfield 14, 3) := by decide +kernel
theorem dX3_readCondition_96 : decode cX3_readCondition 96 = .ok (.iload_n 3, 1) := by decide +kernel
theorem dX3_readCondition_97 : decode cX3_readCondition 97 = .ok (.invokevirtual 115, 3) := by decide +kernel
theorem dX3_readCondition_100 : decode cX3_readCondition 100 = .ok (.aload_n 0, 1) := by decide +kernel
theorem dX3_readCondition_101 : decode cX3_readCondition 101 = .ok (.invokevirtual 118, 3) := by decide +kernel
theorem dX3_readCondition_104 : decode cX3_readCondition 104 = .ok (.istore_n 1, 1) := by decide +kernel
theorem dX3_readCondition_105 : decode cX3_readCondition 105 = .ok (.iinc 2 1, 3) := by decide +kernel
theorem dX3_readCondition_108 : decode cX3_readCondition 108 = .ok (.goto (-94), 3) := by decide +kernel
theorem dX3_readCondition_111 : decode cX3_readCondition 111 = .ok (.return_, 1) := by decide +kernel
theorem dX3_opens_0 : decode cX3_opens 0 = .ok (.aload_n 0, 1) := by decide +kernel
theorem dX3_opens_1 : decode cX3_opens 1 = .ok (.getfield 109, 3) := by decide +kernel
theorem dX3_opens_4 : decode cX3_opens 4 = .ok (.bipush 8, 2) := by decide +kernel
theorem dX3_opens_6 : decode cX3_opens 6 = .ok (.if_icmp .lt 13, 3) := by decide +kernel
theorem dX3_opens_9 : decode cX3_opens 9 = .ok (.aload_n 0, 1) := by decide +kernel
theorem dX3_opens_10 : decode cX3_opens 10 = .ok (.iconst 3, 1) := by decide +kernel
theorem dX3_opens_11 : decode cX3_opens 11 = .ok (.aload_n 0, 1) := by decide +kernel
theorem dX3_opens_12 : decode cX3_opens 12 = .ok (.getfield 41, 3) := by decide +kernel
theorem dX3_opens_15 : decode cX3_opens 15 = .ok (.invokevirtual 75, 3) := by decide +kernel
theorem dX3_opens_18 : decode cX3_opens 18 = .ok (.return_, 1) := by decide +kernel
theorem dX3_opens_19 : decode cX3_opens 19 = .ok (.aload_n 0, 1) := by decide +kernel
theorem dX3_opens_20 : decode cX3_opens 20 = .ok (.dup, 1) := by decide +kernel
theorem dX3_opens_21 : decode cX3_opens 21 = .ok (.getfield 109, 3) := by decide +kernel
theorem dX3_opens_24 : decode cX3_opens 24 = .ok (.iconst 1, 1) := by decide +kernel
theorem dX3_opens_25 : decode cX3_opens 25 = .ok (.iadd, 1) := by decide +kernel
theorem dX3_opens_26 : decode cX3_opens 26 = .ok (.putfield 109, 3) := by decide +kernel
theorem dX3_opens_29 : decode cX3_opens 29 = .ok (.aload_n 0, 1) := by decide +kernel
theorem dX3_opens_30 : decode cX3_opens 30 = .ok (.invokevirtual 122, 3) := by decide +kernel
theorem dX3_opens_33 : decode cX3_opens 33 = .ok (.return_, 1) := by decide +kernel
theorem dX3_waits_0 : decode cX3_waits 0 = .ok (.aload_n 0, 1) := by decide +kernel
theorem dX3_waits_1 : decode cX3_waits 1 = .ok (.getfield 106, 3) := by decide +kernel
theorem dX3_waits_4 : decode cX3_waits 4 = .ok (.aload_n 0, 1) := by decide +kernel
theorem dX3_waits_5 : decode cX3_waits 5 = .ok (.getfield 24, 3) := by decide +kernel
theorem dX3_waits_8 : decode cX3_waits 8 = .ok (.arraylength, 1) := by decide +kernel
theorem dX3_waits_9 : decode cX3_waits 9 = .ok (.if_icmp .ge 26, 3) := by decide +kernel
theorem dX3_waits_12 : decode cX3_waits 12 = .ok (.aload_n 0, 1) := by decide +kernel
theorem dX3_waits_13 : decode cX3_waits 13 = .ok (.getfield 24, 3) := by decide +kernel
theorem dX3_waits_16 : decode cX3_waits 16 = .ok (.aload_n 0, 1) := by decide +kernel
theorem dX3_waits_17 : decode cX3_waits 17 = .ok (.getfield 106, 3) := by decide +kernel
theorem dX3_waits_20 : decode cX3_waits 20 = .ok (.aload_n 0, 1) := by decide +kernel
theorem dX3_waits_21 : decode cX3_waits 21 = .ok (.invokevirtual 52, 3) := by decide +kernel
theorem dX3_waits_24 : decode cX3_waits 24 = .ok (.iastore, 1) := by decide +kernel
theorem dX3_waits_25 : decode cX3_waits 25 = .ok (.aload_n 0, 1) := by decide +kernel
theorem dX3_waits_26 : decode cX3_waits 26 = .ok (.dup, 1) := by decide +kernel
theorem dX3_waits_27 : decode cX3_waits 27 = .ok (.getfield 106, 3) := by decide +kernel
theorem dX3_waits_30 : decode cX3_waits 30 = .ok (.iconst 1, 1) := by decide +kernel
theorem dX3_waits_31 : decode cX3_waits 31 = .ok (.iadd, 1) := by decide +kernel
theorem dX3_waits_32 : decode cX3_waits 32 = .ok (.putfield 106, 3) := by decide +kernel
theorem dX3_waits_35 : decode cX3_waits 35 = .ok (.aload_n 0, 1) := by decide +kernel
theorem dX3_waits_36 : decode cX3_waits 36 = .ok (.dup, 1) := by decide +kernel
theorem dX3_waits_37 : decode cX3_waits 37 = .ok (.getfield 41, 3) := by decide +kernel
theorem dX3_waits_40 : decode cX3_waits 40 = .ok (.iconst 1, 1) := by decide +kernel
theorem dX3_waits_41 : decode cX3_waits 41 = .ok (.iadd, 1) := by decide +kernel
theorem dX3_waits_42 : decode cX3_waits 42 = .ok (.putfield 41, 3) := by decide +kernel
theorem dX3_waits_45 : decode cX3_waits 45 = .ok (.return_, 1) := by decide +kernel
theorem dX3_joins_0 : decode cX3_joins 0 = .ok (.iconst 0, 1) := by decide +kernel
theorem dX3_joins_1 : decode cX3_joins 1 = .ok (.istore_n 1, 1) := by decide +kernel
theorem dX3_joins_2 : decode cX3_joins 2 = .ok (.iload_n 1, 1) := by decide +kernel
theorem dX3_joins_3 : decode cX3_joins 3 = .ok (.sipush 400, 3) := by decide +kernel
theorem dX3_joins_6 : decode cX3_joins 6 = .ok (.if_icmp .gt 106, 3) := by decide +kernel
theorem dX3_joins_9 : decode cX3_joins 9 = .ok (.aload_n 0, 1) := by decide +kernel
theorem dX3_joins_10 : decode cX3_joins 10 = .ok (.getfield 32, 3) := by decide +kernel
theorem dX3_joins_13 : decode cX3_joins 13 = .ok (.ifCond .ne 99, 3) := by decide +kernel
theorem dX3_joins_16 : decode cX3_joins 16 = .ok (.aload_n 0, 1) := by decide +kernel
theorem dX3_joins_17 : decode cX3_joins 17 = .ok (.invokevirtual 52, 3) := by decide +kernel
theorem dX3_joins_20 : decode cX3_joins 20 = .ok (.istore_n 2, 1) := by decide +kernel
theorem dX3_joins_21 : decode cX3_joins 21 = .ok (.iload_n 2, 1) := by decide +kernel
theorem dX3_joins_22 : decode cX3_joins 22 = .ok (.bipush 13, 2) := by decide +kernel
theorem dX3_joins_24 : decode cX3_joins 24 = .ok (.if_icmp .eq 9, 3) := by decide +kernel
theorem dX3_joins_27 : decode cX3_joins 27 = .ok (.iload_n 2, 1) := by decide +kernel
theorem dX3_joins_28 : decode cX3_joins 28 = .ok (.bipush 12, 2) := by decide +kernel
theorem dX3_joins_30 : decode cX3_joins 30 = .ok (.if_icmp .ne 14, 3) := by decide +kernel
theorem dX3_joins_33 : decode cX3_joins 33 = .ok (.aload_n 0, 1) := by decide +kernel
theorem dX3_joins_34 : decode cX3_joins 34 = .ok (.iload_n 2, 1) := by decide +kernel
theorem dX3_joins_35 : decode cX3_joins 35 = .ok (.invokevirtual 125, 3) := by decide +kernel
theorem dX3_joins_38 : decode cX3_joins 38 = .ok (.aload_n 0, 1) := by decide +kernel
theorem dX3_joins_39 : decode cX3_joins 39 = .ok (.invokevirtual 122, 3) := by decide +kernel
theorem dX3_joins_42 : decode cX3_joins 42 = .ok (.iconst 1, 1) := by decide +kernel
theorem dX3_joins_43 : decode cX3_joins 43 = .ok (.ireturn, 1) := by decide +kernel
theorem dX3_joins_44 : decode cX3_joins 44 = .ok (.aload_n 0, 1) := by decide +kernel
theorem dX3_joins_45 : decode cX3_joins 45 = .ok (.bipush 12, 2) := by decide +kernel
theorem dX3_joins_47 : decode cX3_joins 47 = .ok (.invokevirtual 125, 3) := by decide +kernel
theorem dX3_joins_50 : decode cX3_joins 50 = .ok (.aload_n 0, 1) := by decide +kernel
theorem dX3_joins_51 : decode cX3_joins 51 = .ok (.getfield 106, 3) := by decide +kernel
theorem dX3_joins_54 : decode cX3_joins 54 = .ok (.ifCond .ne 5, 3) := by decide +kernel
theorem dX3_joins_57 : decode cX3_joins 57 = .ok (.iconst 0, 1) := by decide +kernel
theorem dX3_joins_58 : decode cX3_joins 58 = .ok (.ireturn, 1) := by decide +kernel
theorem dX3_joins_59 : decode cX3_joins 59 = .ok (.iload_n 2, 1) := by decide +kernel
theorem dX3_joins_60 : decode cX3_joins 60 = .ok (.bipush 38, 2) := by decide +kernel
theorem dX3_joins_62 : decode cX3_joins 62 = .ok (.if_icmp .eq 14, 3) := by decide +kernel
theorem dX3_joins_65 : decode cX3_joins 65 = .ok (.aload_n 0, 1) := by decide +kernel
theorem dX3_joins_66 : decode cX3_joins 66 = .ok (.iconst 1, 1) := by decide +kernel
theorem dX3_joins_67 : decode cX3_joins 67 = .ok (.aload_n 0, 1) := by decide +kernel
theorem dX3_joins_68 : decode cX3_joins 68 = .ok (.getfield 41, 3) := by decide +kernel
theorem dX3_joins_71 : decode cX3_joins 71 = .ok (.invokevirtual 75, 3) := by decide +kernel
theorem dX3_joins_74 : decode cX3_joins 74 = .ok (.iconst 0, 1) := by decide +kernel
theorem dX3_joins_75 : decode cX3_joins 75 = .ok (.ireturn, 1) := by decide +kernel
theorem dX3_joins_76 : decode cX3_joins 76 = .ok (.aload_n 0, 1) := by decide +kernel
theorem dX3_joins_77 : decode cX3_joins 77 = .ok (.dup, 1) := by decide +kernel
theorem dX3_joins_78 : decode cX3_joins 78 = .ok (.getfield 106, 3) := by decide +kernel
theorem dX3_joins_81 : decode cX3_joins 81 = .ok (.iconst 1, 1) := by decide +kernel
theorem dX3_joins_82 : decode cX3_joins 82 = .ok (.isub, 1) := by decide +kernel
theorem dX3_joins_83 : decode cX3_joins 83 = .ok (.putfield 106, 3) := by decide +kernel
theorem dX3_joins_86 : decode cX3_joins 86 = .ok (.aload_n 0, 1) := by decide +kernel
theorem dX3_joins_87 : decode cX3_joins 87 = .ok (.dup, 1) := by decide +kernel
theorem dX3_joins_88 : decode cX3_joins 88 = .ok (.getfield 109, 3) := by decide +kernel
theorem dX3_joins_91 : decode cX3_joins 91 = .ok (.iconst 1, 1) := by decide +kernel
theorem dX3_joins_92 : decode cX3_joins 92 = .ok (.isub, 1) := by decide +kernel
theorem dX3_joins_93 : decode cX3_joins 93 = .ok (.putfield 109, 3) := by decide +kernel
theorem dX3_joins_96 : decode cX3_joins 96 = .ok (.aload_n 0, 1) := by decide +kernel
theorem dX3_joins_97 : decode cX3_joins 97 = .ok (.dup, 1) := by decide +kernel
theorem dX3_joins_98 : decode cX3_joins 98 = .ok (.getfield 41, 3) := by decide +kernel
theorem dX3_joins_101 : decode cX3_joins 101 = .ok (.iconst 1, 1) := by decide +kernel
theorem dX3_joins_102 : decode cX3_joins 102 = .ok (.iadd, 1) := by decide +kernel
theorem dX3_joins_103 : decode cX3_joins 103 = .ok (.putfield 41, 3) := by decide +kernel
theorem dX3_joins_106 : decode cX3_joins 106 = .ok (.iinc 1 1, 3) := by decide +kernel
theorem dX3_joins_109 : decode cX3_joins 109 = .ok (.goto (-107), 3) := by decide +kernel
theorem dX3_joins_112 : decode cX3_joins 112 = .ok (.iconst 0, 1) := by decide +kernel
theorem dX3_joins_113 : decode cX3_joins 113 = .ok (.ireturn, 1) := by decide +kernel
theorem dX3_settle_0 : decode cX3_settle 0 = .ok (.aload_n 0, 1) := by decide +kernel
theorem dX3_settle_1 : decode cX3_settle 1 = .ok (.getfield 106, 3) := by decide +kernel
theorem dX3_settle_4 : decode cX3_settle 4 = .ok (.ifCond .le 87, 3) := by decide +kernel
theorem dX3_settle_7 : decode cX3_settle 7 = .ok (.aload_n 0, 1) := by decide +kernel
theorem dX3_settle_8 : decode cX3_settle 8 = .ok (.getfield 24, 3) := by decide +kernel
theorem dX3_settle_11 : decode cX3_settle 11 = .ok (.aload_n 0, 1) := by decide +kernel
theorem dX3_settle_12 : decode cX3_settle 12 = .ok (.getfield 106, 3) := by decide +kernel
theorem dX3_settle_15 : decode cX3_settle 15 = .ok (.iconst 1, 1) := by decide +kernel
theorem dX3_settle_16 : decode cX3_settle 16 = .ok (.isub, 1) := by decide +kernel
theorem dX3_settle_17 : decode cX3_settle 17 = .ok (.iaload, 1) := by decide +kernel
theorem dX3_settle_18 : decode cX3_settle 18 = .ok (.bipush 37, 2) := by decide +kernel
theorem dX3_settle_20 : decode cX3_settle 20 = .ok (.if_icmp .eq 71, 3) := by decide +kernel
theorem dX3_settle_23 : decode cX3_settle 23 = .ok (.aload_n 0, 1) := by decide +kernel
theorem dX3_settle_24 : decode cX3_settle 24 = .ok (.getfield 24, 3) := by decide +kernel
theorem dX3_settle_27 : decode cX3_settle 27 = .ok (.aload_n 0, 1) := by decide +kernel
theorem dX3_settle_28 : decode cX3_settle 28 = .ok (.getfield 106, 3) := by decide +kernel
theorem dX3_settle_31 : decode cX3_settle 31 = .ok (.iconst 1, 1) := by decide +kernel
theorem dX3_settle_32 : decode cX3_settle 32 = .ok (.isub, 1) := by decide +kernel
theorem dX3_settle_33 : decode cX3_settle 33 = .ok (.iaload, 1) := by decide +kernel
theorem dX3_settle_34 : decode cX3_settle 34 = .ok (.iload_n 1, 1) := by decide +kernel
theorem dX3_settle_35 : decode cX3_settle 35 = .ok (.if_icmp .lt 56, 3) := by decide +kernel
theorem dX3_settle_38 : decode cX3_settle 38 = .ok (.aload_n 0, 1) := by decide +kernel
theorem dX3_settle_39 : decode cX3_settle 39 = .ok (.dup, 1) := by decide +kernel
theorem dX3_settle_40 : decode cX3_settle 40 = .ok (.getfield 106, 3) := by decide +kernel
theorem dX3_settle_43 : decode cX3_settle 43 = .ok (.iconst 1, 1) := by decide +kernel
theorem dX3_settle_44 : decode cX3_settle 44 = .ok (.isub, 1) := by decide +kernel
theorem dX3_settle_45 : decode cX3_settle 45 = .ok (.putfield 106, 3) := by decide +kernel
theorem dX3_settle_48 : decode cX3_settle 48 = .ok (.aload_n 0, 1) := by decide +kernel
theorem dX3_settle_49 : decode cX3_settle 49 = .ok (.getfield 24, 3) := by decide +kernel
theorem dX3_settle_52 : decode cX3_settle 52 = .ok (.aload_n 0, 1) := by decide +kernel
theorem dX3_settle_53 : decode cX3_settle 53 = .ok (.getfield 106, 3) := by decide +kernel
theorem dX3_settle_56 : decode cX3_settle 56 = .ok (.iaload, 1) := by decide +kernel
theorem dX3_settle_57 : decode cX3_settle 57 = .ok (.bipush 14, 2) := by decide +kernel
theorem dX3_settle_59 : decode cX3_settle 59 = .ok (.if_icmp .ne 13, 3) := by decide +kernel
theorem dX3_settle_62 : decode cX3_settle 62 = .ok (.aload_n 0, 1) := by decide +kernel
theorem dX3_settle_63 : decode cX3_settle 63 = .ok (.dup, 1) := by decide +kernel
theorem dX3_settle_64 : decode cX3_settle 64 = .ok (.getfield 109, 3) := by decide +kernel
theorem dX3_settle_67 : decode cX3_settle 67 = .ok (.iconst 1, 1) := by decide +kernel
theorem dX3_settle_68 : decode cX3_settle 68 = .ok (.isub, 1) := by decide +kernel
theorem dX3_settle_69 : decode cX3_settle 69 = .ok (.putfield 109, 3) := by decide +kernel
theorem dX3_settle_72 : decode cX3_settle 72 = .ok (.aload_n 0, 1) := by decide +kernel
theorem dX3_settle_73 : decode cX3_settle 73 = .ok (.getfield 14, 3) := by decide +kernel
theorem dX3_settle_76 : decode cX3_settle 76 = .ok (.aload_n 0, 1) := by decide +kernel
theorem dX3_settle_77 : decode cX3_settle 77 = .ok (.getfield 24, 3) := by decide +kernel
theorem dX3_settle_80 : decode cX3_settle 80 = .ok (.aload_n 0, 1) := by decide +kernel
theorem dX3_settle_81 : decode cX3_settle 81 = .ok (.getfield 106, 3) := by decide +kernel
theorem dX3_settle_84 : decode cX3_settle 84 = .ok (.iaload, 1) := by decide +kernel
theorem dX3_settle_85 : decode cX3_settle 85 = .ok (.invokevirtual 115, 3) := by decide +kernel
theorem dX3_settle_88 : decode cX3_settle 88 = .ok (.goto (-88), 3) := by decide +kernel
theorem dX3_settle_91 : decode cX3_settle 91 = .ok (.return_, 1) := by decide +kernel
theorem dX3_readSum_0 : decode cX3_readSum 0 = .ok (.iconst (-1), 1) := by decide +kernel
theorem dX3_readSum_1 : decode cX3_readSum 1 = .ok (.istore_n 1, 1) := by decide +kernel
theorem dX3_readSum_2 : decode cX3_readSum 2 = .ok (.aload_n 0, 1) := by decide +kernel
theorem dX3_readSum_3 : decode cX3_readSum 3 = .ok (.invokevirtual 128, 3) := by decide +kernel
theorem dX3_readSum_6 : decode cX3_readSum 6 = .ok (.iconst 0, 1) := by decide +kernel
theorem dX3_readSum_7 : decode cX3_readSum 7 = .ok (.istore_n 2, 1) := by decide +kernel
theorem dX3_readSum_8 : decode cX3_readSum 8 = .ok (.iload_n 2, 1) := by decide +kernel
theorem dX3_readSum_9 : decode cX3_readSum 9 = .ok (.sipush 400, 3) := by decide +kernel
theorem dX3_readSum_12 : decode cX3_readSum 12 = .ok (.if_icmp .gt 141, 3) := by decide +kernel
theorem dX3_readSum_15 : decode cX3_readSum 15 = .ok (.aload_n 0, 1) := by decide +kernel
theorem dX3_readSum_16 : decode cX3_readSum 16 = .ok (.getfield 32, 3) := by decide +kernel
theorem dX3_readSum_19 : decode cX3_readSum 19 = .ok (.ifCond .ne 134, 3) := by decide +kernel
theorem dX3_readSum_22 : decode cX3_readSum 22 = .ok (.aload_n 0, 1) := by decide +kernel
theorem dX3_readSum_23 : decode cX3_readSum 23 = .ok (.invokevirtual 52, 3) := by decide +kernel
theorem dX3_readSum_26 : decode cX3_readSum 26 = .ok (.istore_n 3, 1) := by decide +kernel
theorem dX3_readSum_27 : decode cX3_readSum 27 = .ok (.iload_n 3, 1) := by decide +kernel
theorem dX3_readSum_28 : decode cX3_readSum 28 = .ok (.bipush 35, 2) := by decide +kernel
theorem dX3_readSum_30 : decode cX3_readSum 30 = .ok (.if_icmp .ne 29, 3) := by decide +kernel
theorem dX3_readSum_33 : decode cX3_readSum 33 = .ok (.aload_n 0, 1) := by decide +kernel
theorem dX3_readSum_34 : decode cX3_readSum 34 = .ok (.dup, 1) := by decide +kernel
theorem dX3_readSum_35 : decode cX3_readSum 35 = .ok (.getfield 41, 3) := by decide +kernel
theorem dX3_readSum_38 : decode cX3_readSum 38 = .ok (.iconst 1, 1) := by decide +kernel
theorem dX3_readSum_39 : decode cX3_readSum 39 = .ok (.iadd, 1) := by decide +kernel
theorem dX3_readSum_40 : decode cX3_readSum 40 = .ok (.putfield 41, 3) := by decide +kernel
theorem dX3_readSum_43 : decode cX3_readSum 43 = .ok (.aload_n 0, 1) := by decide +kernel
theorem dX3_readSum_44 : decode cX3_readSum 44 = .ok (.invokevirtual 128, 3) := by decide +kernel
theorem dX3_readSum_47 : decode cX3_readSum 47 = .ok (.aload_n 0, 1) := by decide +kernel
theorem dX3_readSum_48 : decode cX3_readSum 48 = .ok (.getfield 14, 3) := by decide +kernel
theorem dX3_readSum_51 : decode cX3_readSum 51 = .ok (.bipush 35, 2) := by decide +kernel
theorem dX3_readSum_53 : decode cX3_readSum 53 = .ok (.invokevirtual 115, 3) := by decide +kernel
theorem dX3_readSum_56 : decode cX3_readSum 56 = .ok (.goto 91, 3) := by decide +kernel
theorem dX3_readSum_59 : decode cX3_readSum 59 = .ok (.iload_n 3, 1) := by decide +kernel
theorem dX3_readSum_60 : decode cX3_readSum 60 = .ok (.bipush 36, 2) := by decide +kernel
theorem dX3_readSum_62 : decode cX3_readSum 62 = .ok (.if_icmp .ne 43, 3) := by decide +kernel
theorem dX3_readSum_65 : decode cX3_readSum 65 = .ok (.aload_n 0, 1) := by decide +kernel
theorem dX3_readSum_66 : decode cX3_readSum 66 = .ok (.dup, 1) := by decide +kernel
theorem dX3_readSum_67 : decode cX3_readSum 67 = .ok (.getfield 41, 3) := by decide +kernel
theorem dX3_readSum_70 : decode cX3_readSum 70 = .ok (.iconst 1, 1) := by decide +kernel
theorem dX3_readSum_71 : decode cX3_readSum 71 = .ok (.iadd, 1) := by decide +kernel
theorem dX3_readSum_72 : decode cX3_readSum 72 = .ok (.putfield 41, 3) := by decide +kernel
theorem dX3_readSum_75 : decode cX3_readSum 75 = .ok (.aload_n 0, 1) := by decide +kernel
theorem dX3_readSum_76 : decode cX3_readSum 76 = .ok (.getfield 14, 3) := by decide +kernel
theorem dX3_readSum_79 : decode cX3_readSum 79 = .ok (.bipush 64, 2) := by decide +kernel
theorem dX3_readSum_81 : decode cX3_readSum 81 = .ok (.aload_n 0, 1) := by decide +kernel
theorem dX3_readSum_82 : decode cX3_readSum 82 = .ok (.iconst 1, 1) := by decide +kernel
theorem dX3_readSum_83 : decode cX3_readSum 83 = .ok (.sipush 9999, 3) := by decide +kernel
theorem dX3_readSum_86 : decode cX3_readSum 86 = .ok (.invokevirtual 68, 3) := by decide +kernel
theorem dX3_readSum_89 : decode cX3_readSum 89 = .ok (.iadd, 1) := by decide +kernel
theorem dX3_readSum_90 : decode cX3_readSum 90 = .ok (.invokevirtual 115, 3) := by decide +kernel
theorem dX3_readSum_93 : decode cX3_readSum 93 = .ok (.aload_n 0, 1) := by decide +kernel
theorem dX3_readSum_94 : decode cX3_readSum 94 = .ok (.getfield 14, 3) := by decide +kernel
theorem dX3_readSum_97 : decode cX3_readSum 97 = .ok (.bipush 36, 2) := by decide +kernel
theorem dX3_readSum_99 : decode cX3_readSum 99 = .ok (.invokevirtual 115, 3) := by decide +kernel
theorem dX3_readSum_102 : decode cX3_readSum 102 = .ok (.goto 45, 3) := by decide +kernel
theorem dX3_readSum_105 : decode cX3_readSum 105 = .ok (.iload_n 1, 1) := by decide +kernel
theorem dX3_readSum_106 : decode cX3_readSum 106 = .ok (.iconst (-1), 1) := by decide +kernel
theorem dX3_readSum_107 : decode cX3_readSum 107 = .ok (.if_icmp .eq 11, 3) := by decide +kernel
theorem dX3_readSum_110 : decode cX3_readSum 110 = .ok (.aload_n 0, 1) := by decide +kernel
theorem dX3_readSum_111 : decode cX3_readSum 111 = .ok (.getfield 14, 3) := by decide +kernel
theorem dX3_readSum_114 : decode cX3_readSum 114 = .ok (.iload_n 1, 1) := by decide +kernel
theorem dX3_readSum_115 : decode cX3_readSum 115 = .ok (.invokevirtual 115, 3) := by decide +kernel
theorem dX3_readSum_118 : decode cX3_readSum 118 = .ok (.iload_n 3, 1) := by decide +kernel
theorem dX3_readSum_119 : decode cX3_readSum 119 = .ok (.bipush 33, 2) := by decide +kernel
theorem dX3_readSum_121 : decode cX3_readSum 121 = .ok (.if_icmp .eq 10, 3) := by decide +kernel
theorem dX3_readSum_124 : decode cX3_readSum 124 = .ok (.iload_n 3, 1) := by decide +kernel
theorem dX3_readSum_125 : decode cX3_readSum 125 = .ok (.bipush 34, 2) := by decide +kernel
theorem dX3_readSum_127 : decode cX3_readSum 127 = .ok (.if_icmp .eq 4, 3) := by decide +kernel
theorem dX3_readSum_130 : decode cX3_readSum 130 = .ok (.return_, 1) := by decide +kernel
theorem dX3_readSum_131 : decode cX3_readSum 131 = .ok (.iload_n 3, 1) := by decide +kernel
theorem dX3_readSum_132 : decode cX3_readSum 132 = .ok (.istore_n 1, 1) := by decide +kernel
theorem dX3_readSum_133 : decode cX3_readSum 133 = .ok (.aload_n 0, 1) := by decide +kernel
theorem dX3_readSum_134 : decode cX3_readSum 134 = .ok (.dup, 1) := by decide +kernel
theorem dX3_readSum_135 : decode cX3_readSum 135 = .ok (.getfield 41, 3) := by decide +kernel
theorem dX3_readSum_138 : decode cX3_readSum 138 = .ok (.iconst 1, 1) := by decide +kernel
theorem dX3_readSum_139 : decode cX3_readSum 139 = .ok (.iadd, 1) := by decide +kernel
theorem dX3_readSum_140 : decode cX3_readSum 140 = .ok (.putfield 41, 3) := by decide +kernel
theorem dX3_readSum_143 : decode cX3_readSum 143 = .ok (.aload_n 0, 1) := by decide +kernel
theorem dX3_readSum_144 : decode cX3_readSum 144 = .ok (.invokevirtual 128, 3) := by decide +kernel
theorem dX3_readSum_147 : decode cX3_readSum 147 = .ok (.iinc 2 1, 3) := by decide +kernel
theorem dX3_readSum_150 : decode cX3_readSum 150 = .ok (.goto (-142), 3) := by decide +kernel
theorem dX3_readSum_153 : decode cX3_readSum 153 = .ok (.return_, 1) := by decide +kernel
theorem dX3_readUnit_0 : decode cX3_readUnit 0 = .ok (.aload_n 0, 1) := by decide +kernel
theorem dX3_readUnit_1 : decode cX3_readUnit 1 = .ok (.getfield 32, 3) := by decide +kernel
theorem dX3_readUnit_4 : decode cX3_readUnit 4 = .ok (.ifCond .eq 4, 3) := by decide +kernel
theorem dX3_readUnit_7 : decode cX3_readUnit 7 = .ok (.return_, 1) := by decide +kernel
theorem dX3_readUnit_8 : decode cX3_readUnit 8 = .ok (.aload_n 0, 1) := by decide +kernel
theorem dX3_readUnit_9 : decode cX3_readUnit 9 = .ok (.invokevirtual 52, 3) := by decide +kernel
theorem dX3_readUnit_12 : decode cX3_readUnit 12 = .ok (.bipush 42, 2) := by decide +kernel
theorem dX3_readUnit_14 : decode cX3_readUnit 14 = .ok (.if_icmp .ne 38, 3) := by decide +kernel
theorem dX3_readUnit_17 : decode cX3_readUnit 17 = .ok (.aload_n 0, 1) := by decide +kernel
theorem dX3_readUnit_18 : decode cX3_readUnit 18 = .ok (.getfield 14, 3) := by decide +kernel
theorem dX3_readUnit_21 : decode cX3_readUnit 21 = .ok (.bipush 64, 2) := by decide +kernel
theorem dX3_readUnit_23 : decode cX3_readUnit 23 = .ok (.aload_n 0, 1) := by decide +kernel
theorem dX3_readUnit_24 : decode cX3_readUnit 24 = .ok (.getfield 28, 3) := by decide +kernel
theorem dX3_readUnit_27 : decode cX3_readUnit 27 = .ok (.getfield 131, 3) := by decide +kernel
theorem dX3_readUnit_30 : decode cX3_readUnit 30 = .ok (.aload_n 0, 1) := by decide +kernel
theorem dX3_readUnit_31 : decode cX3_readUnit 31 = .ok (.getfield 41, 3) := by decide +kernel
theorem dX3_readUnit_34 : decode cX3_readUnit 34 = .ok (.iaload, 1) := by decide +kernel
theorem dX3_readUnit_35 : decode cX3_readUnit 35 = .ok (.iadd, 1) := by decide +kernel
theorem dX3_readUnit_36 : decode cX3_readUnit 36 = .ok (.invokevirtual 115, 3) := by decide +kernel
theorem dX3_readUnit_39 : decode cX3_readUnit 39 = .ok (.aload_n 0, 1) := by decide +kernel
theorem dX3_readUnit_40 : decode cX3_readUnit 40 = .ok (.dup, 1) := by decide +kernel
theorem dX3_readUnit_41 : decode cX3_readUnit 41 = .ok (.getfield 41, 3) := by decide +kernel
theorem dX3_readUnit_44 : decode cX3_readUnit 44 = .ok (.iconst 1, 1) := by decide +kernel
theorem dX3_readUnit_45 : decode cX3_readUnit 45 = .ok (.iadd, 1) := by decide +kernel
theorem dX3_readUnit_46 : decode cX3_readUnit 46 = .ok (.putfield 41, 3) := by decide +kernel
theorem dX3_readUnit_49 : decode cX3_readUnit 49 = .ok (.goto 45, 3) := by decide +kernel
theorem dX3_readUnit_52 : decode cX3_readUnit 52 = .ok (.aload_n 0, 1) := by decide +kernel
theorem dX3_readUnit_53 : decode cX3_readUnit 53 = .ok (.invokevirtual 52, 3) := by decide +kernel
theorem dX3_readUnit_56 : decode cX3_readUnit 56 = .ok (.bipush 7, 2) := by decide +kernel
theorem dX3_readUnit_58 : decode cX3_readUnit 58 = .ok (.if_icmp .gt 27, 3) := by decide +kernel
theorem dX3_readUnit_61 : decode cX3_readUnit 61 = .ok (.aload_n 0, 1) := by decide +kernel
theorem dX3_readUnit_62 : decode cX3_readUnit 62 = .ok (.getfield 14, 3) := by decide +kernel
theorem dX3_readUnit_65 : decode cX3_readUnit 65 = .ok (.aload_n 0, 1) := by decide +kernel
theorem dX3_readUnit_66 : decode cX3_readUnit 66 = .ok (.invokevirtual 52, 3) := by decide +kernel
theorem dX3_readUnit_69 : decode cX3_readUnit 69 = .ok (.invokevirtual 115, 3) := by decide +kernel
theorem dX3_readUnit_72 : decode cX3_readUnit 72 = .ok (.aload_n 0, 1) := by decide +kernel
theorem dX3_readUnit_73 : decode cX3_readUnit 73 = .ok (.dup, 1) := by decide +kernel
theorem dX3_readUnit_74 : decode cX3_readUnit 74 = .ok (.getfield 41, 3) := by decide +kernel
theorem dX3_readUnit_77 : decode cX3_readUnit 77 = .ok (.iconst 1, 1) := by decide +kernel
theorem dX3_readUnit_78 : decode cX3_readUnit 78 = .ok (.iadd, 1) := by decide +kernel
theorem dX3_readUnit_79 : decode cX3_readUnit 79 = .ok (.putfield 41, 3) := by decide +kernel
theorem dX3_readUnit_82 : decode cX3_readUnit 82 = .ok (.goto 12, 3) := by decide +kernel
theorem dX3_readUnit_85 : decode cX3_readUnit 85 = .ok (.aload_n 0, 1) := by decide +kernel
theorem dX3_readUnit_86 : decode cX3_readUnit 86 = .ok (.iconst 1, 1) := by decide +kernel
theorem dX3_readUnit_87 : decode cX3_readUnit 87 = .ok (.aload_n 0, 1) := by decide +kernel
theorem dX3_readUnit_88 : decode cX3_readUnit 88 = .ok (.getfield 41, 3) := by decide +kernel
theorem dX3_readUnit_91 : decode cX3_readUnit 91 = .ok (.invokevirtual 75, 3) := by decide +kernel
theorem dX3_readUnit_94 : decode cX3_readUnit 94 = .ok (.return_, 1) := by decide +kernel
theorem dX3_kind_0 : decode cX3_kind 0 = .ok (.aload_n 0, 1) := by decide +kernel
theorem dX3_kind_1 : decode cX3_kind 1 = .ok (.getfield 41, 3) := by decide +kernel
theorem dX3_kind_4 : decode cX3_kind 4 = .ok (.sipush 400, 3) := by decide +kernel
theorem dX3_kind_7 : decode cX3_kind 7 = .ok (.if_icmp .gt 18, 3) := by decide +kernel
theorem dX3_kind_10 : decode cX3_kind 10 = .ok (.aload_n 0, 1) := by decide +kernel
theorem dX3_kind_11 : decode cX3_kind 11 = .ok (.getfield 28, 3) := by decide +kernel
theorem dX3_kind_14 : decode cX3_kind 14 = .ok (.getfield 134, 3) := by decide +kernel
theorem dX3_kind_17 : decode cX3_kind 17 = .ok (.aload_n 0, 1) := by decide +kernel
theorem dX3_kind_18 : decode cX3_kind 18 = .ok (.getfield 41, 3) := by decide +kernel
theorem dX3_kind_21 : decode cX3_kind 21 = .ok (.iaload, 1) := by decide +kernel
theorem dX3_kind_22 : decode cX3_kind 22 = .ok (.goto 5, 3) := by decide +kernel
theorem dX3_kind_25 : decode cX3_kind 25 = .ok (.bipush 43, 2) := by decide +kernel
theorem dX3_kind_27 : decode cX3_kind 27 = .ok (.ireturn, 1) := by decide +kernel
theorem dX3_takes_0 : decode cX3_takes 0 = .ok (.aload_n 0, 1) := by decide +kernel
theorem dX3_takes_1 : decode cX3_takes 1 = .ok (.getfield 32, 3) := by decide +kernel
theorem dX3_takes_4 : decode cX3_takes 4 = .ok (.ifCond .eq 4, 3) := by decide +kernel
theorem dX3_takes_7 : decode cX3_takes 7 = .ok (.return_, 1) := by decide +kernel
theorem dX3_takes_8 : decode cX3_takes 8 = .ok (.aload_n 0, 1) := by decide +kernel
theorem dX3_takes_9 : decode cX3_takes 9 = .ok (.invokevirtual 52, 3) := by decide +kernel
theorem dX3_takes_12 : decode cX3_takes 12 = .ok (.iload_n 1, 1) := by decide +kernel
theorem dX3_takes_13 : decode cX3_takes 13 = .ok (.if_icmp .ne 16, 3) := by decide +kernel
theorem dX3_takes_16 : decode cX3_takes 16 = .ok (.aload_n 0, 1) := by decide +kernel
theorem dX3_takes_17 : decode cX3_takes 17 = .ok (.dup, 1) := by decide +kernel
theorem dX3_takes_18 : decode cX3_takes 18 = .ok (.getfield 41, 3) := by decide +kernel
theorem dX3_takes_21 : decode cX3_takes 21 = .ok (.iconst 1, 1) := by decide +kernel
theorem dX3_takes_22 : decode cX3_takes 22 = .ok (.iadd, 1) := by decide +kernel
theorem dX3_takes_23 : decode cX3_takes 23 = .ok (.putfield 41, 3) := by decide +kernel
theorem dX3_takes_26 : decode cX3_takes 26 = .ok (.goto 12, 3) := by decide +kernel
theorem dX3_takes_29 : decode cX3_takes 29 = .ok (.aload_n 0, 1) := by decide +kernel
theorem dX3_takes_30 : decode cX3_takes 30 = .ok (.iconst 1, 1) := by decide +kernel
theorem dX3_takes_31 : decode cX3_takes 31 = .ok (.aload_n 0, 1) := by decide +kernel
theorem dX3_takes_32 : decode cX3_takes 32 = .ok (.getfield 41, 3) := by decide +kernel
theorem dX3_takes_35 : decode cX3_takes 35 = .ok (.invokevirtual 75, 3) := by decide +kernel
theorem dX3_takes_38 : decode cX3_takes 38 = .ok (.return_, 1) := by decide +kernel
theorem dX3_number_0 : decode cX3_number 0 = .ok (.aload_n 0, 1) := by decide +kernel
theorem dX3_number_1 : decode cX3_number 1 = .ok (.getfield 32, 3) := by decide +kernel
theorem dX3_number_4 : decode cX3_number 4 = .ok (.ifCond .eq 5, 3) := by decide +kernel
theorem dX3_number_7 : decode cX3_number 7 = .ok (.iconst (-1), 1) := by decide +kernel
theorem dX3_number_8 : decode cX3_number 8 = .ok (.ireturn, 1) := by decide +kernel
theorem dX3_number_9 : decode cX3_number 9 = .ok (.aload_n 0, 1) := by decide +kernel
theorem dX3_number_10 : decode cX3_number 10 = .ok (.getfield 28, 3) := by decide +kernel
theorem dX3_number_13 : decode cX3_number 13 = .ok (.getfield 131, 3) := by decide +kernel
theorem dX3_number_16 : decode cX3_number 16 = .ok (.aload_n 0, 1) := by decide +kernel
theorem dX3_number_17 : decode cX3_number 17 = .ok (.getfield 41, 3) := by decide +kernel
theorem dX3_number_20 : decode cX3_number 20 = .ok (.iaload, 1) := by decide +kernel
theorem dX3_number_21 : decode cX3_number 21 = .ok (.istore_n 3, 1) := by decide +kernel
theorem dX3_number_22 : decode cX3_number 22 = .ok (.aload_n 0, 1) := by decide +kernel
theorem dX3_number_23 : decode cX3_number 23 = .ok (.invokevirtual 52, 3) := by decide +kernel
theorem dX3_number_26 : decode cX3_number 26 = .ok (.bipush 42, 2) := by decide +kernel
theorem dX3_number_28 : decode cX3_number 28 = .ok (.if_icmp .eq 15, 3) := by decide +kernel
theorem dX3_number_31 : decode cX3_number 31 = .ok (.aload_n 0, 1) := by decide +kernel
theorem dX3_number_32 : decode cX3_number 32 = .ok (.iconst 1, 1) := by decide +kernel
theorem dX3_number_33 : decode cX3_number 33 = .ok (.aload_n 0, 1) := by decide +kernel
theorem dX3_number_34 : decode cX3_number 34 = .ok (.getfield 41, 3) := by decide +kernel
theorem dX3_number_37 : decode cX3_number 37 = .ok (.invokevirtual 75, 3) := by decide +kernel
theorem dX3_number_40 : decode cX3_number 40 = .ok (.goto 37, 3) := by decide +kernel
theorem dX3_number_43 : decode cX3_number 43 = .ok (.iload_n 3, 1) := by decide +kernel
theorem dX3_number_44 : decode cX3_number 44 = .ok (.iload_n 1, 1) := by decide +kernel
theorem dX3_number_45 : decode cX3_number 45 = .ok (.if_icmp .lt 8, 3) := by decide +kernel
theorem dX3_number_48 : decode cX3_number 48 = .ok (.iload_n 3, 1) := by decide +kernel
theorem dX3_number_49 : decode cX3_number 49 = .ok (.iload_n 2, 1) := by decide +kernel
theorem dX3_number_50 : decode cX3_number 50 = .ok (.if_icmp .le 15, 3) := by decide +kernel
theorem dX3_number_53 : decode cX3_number 53 = .ok (.aload_n 0, 1) := by decide +kernel
theorem dX3_number_54 : decode cX3_number 54 = .ok (.iconst 2, 1) := by decide +kernel
theorem dX3_number_55 : decode cX3_number 55 = .ok (.aload_n 0, 1) := by decide +kernel
theorem dX3_number_56 : decode cX3_number 56 = .ok (.getfield 41, 3) := by decide +kernel
theorem dX3_number_59 : decode cX3_number 59 = .ok (.invokevirtual 75, 3) := by decide +kernel
theorem dX3_number_62 : decode cX3_number 62 = .ok (.goto 15, 3) := by decide +kernel
theorem dX3_number_65 : decode cX3_number 65 = .ok (.aload_n 0, 1) := by decide +kernel
theorem dX3_number_66 : decode cX3_number 66 = .ok (.dup, 1) := by decide +kernel
theorem dX3_number_67 : decode cX3_number 67 = .ok (.getfield 41, 3) := by decide +kernel
theorem dX3_number_70 : decode cX3_number 70 = .ok (.iconst 1, 1) := by decide +kernel
theorem dX3_number_71 : decode cX3_number 71 = .ok (.iadd, 1) := by decide +kernel
theorem dX3_number_72 : decode cX3_number 72 = .ok (.putfield 41, 3) := by decide +kernel
theorem dX3_number_75 : decode cX3_number 75 = .ok (.iload_n 3, 1) := by decide +kernel
theorem dX3_number_76 : decode cX3_number 76 = .ok (.ireturn, 1) := by decide +kernel
theorem dX3_number_77 : decode cX3_number 77 = .ok (.iconst (-1), 1) := by decide +kernel
theorem dX3_number_78 : decode cX3_number 78 = .ok (.ireturn, 1) := by decide +kernel
theorem dX3_fail_0 : decode cX3_fail 0 = .ok (.aload_n 0, 1) := by decide +kernel
theorem dX3_fail_1 : decode cX3_fail 1 = .ok (.getfield 32, 3) := by decide +kernel
theorem dX3_fail_4 : decode cX3_fail 4 = .ok (.ifCond .ne 21, 3) := by decide +kernel
theorem dX3_fail_7 : decode cX3_fail 7 = .ok (.aload_n 0, 1) := by decide +kernel
theorem dX3_fail_8 : decode cX3_fail 8 = .ok (.iload_n 1, 1) := by decide +kernel
theorem dX3_fail_9 : decode cX3_fail 9 = .ok (.putfield 32, 3) := by decide +kernel
theorem dX3_fail_12 : decode cX3_fail 12 = .ok (.aload_n 0, 1) := by decide +kernel
theorem dX3_fail_13 : decode cX3_fail 13 = .ok (.aload_n 0, 1) := by decide +kernel
theorem dX3_fail_14 : decode cX3_fail 14 = .ok (.getfield 28, 3) := by decide +kernel
theorem dX3_fail_17 : decode cX3_fail 17 = .ok (.getfield 136, 3) := by decide +kernel
theorem dX3_fail_20 : decode cX3_fail 20 = .ok (.iload_n 2, 1) := by decide +kernel
theorem dX3_fail_21 : decode cX3_fail 21 = .ok (.iaload, 1) := by decide +kernel
theorem dX3_fail_22 : decode cX3_fail 22 = .ok (.putfield 20, 3) := by decide +kernel
theorem dX3_fail_25 : decode cX3_fail 25 = .ok (.return_, 1) := by decide +kernel
theorem dX4_init_0 : decode cX4_init 0 = .ok (.aload_n 0, 1) := by decide +kernel
theorem dX4_init_1 : decode cX4_init 1 = .ok (.invokespecial 3, 3) := by decide +kernel
theorem dX4_init_4 : decode cX4_init 4 = .ok (.aload_n 0, 1) := by decide +kernel
theorem dX4_init_5 : decode cX4_init 5 = .ok (.sipush 256, 3) := by decide +kernel
theorem dX4_init_8 : decode cX4_init 8 = .ok (.newarray .int, 2) := by decide +kernel
theorem dX4_init_10 : decode cX4_init 10 = .ok (.putfield 9, 3) := by decide +kernel
theorem dX4_init_13 : decode cX4_init 13 = .ok (.return_, 1) := by decide +kernel
theorem dX4_flight_0 : decode cX4_flight 0 = .ok (.iconst 1, 1) := by decide +kernel
theorem dX4_flight_1 : decode cX4_flight 1 = .ok (.iload_n 2, 1) := by decide +kernel
theorem dX4_flight_2 : decode cX4_flight 2 = .ok (.ishl, 1) := by decide +kernel
theorem dX4_flight_3 : decode cX4_flight 3 = .ok (.istore 4, 2) := by decide +kernel
theorem dX4_flight_5 : decode cX4_flight 5 = .ok (.iconst 0, 1) := by decide +kernel
theorem dX4_flight_6 : decode cX4_flight 6 = .ok (.istore 5, 2) := by decide +kernel
theorem dX4_flight_8 : decode cX4_flight 8 = .ok (.iload 5, 2) := by decide +kernel
theorem dX4_flight_10 : decode cX4_flight 10 = .ok (.bipush 8, 2) := by decide +kernel
theorem dX4_flight_12 : decode cX4_flight 12 = .ok (.if_icmp .ge 74, 3) := by decide +kernel
theorem dX4_flight_15 : decode cX4_flight 15 = .ok (.iload 4, 2) := by decide +kernel
theorem dX4_flight_17 : decode cX4_flight 17 = .ok (.istore 6, 2) := by decide +kernel
theorem dX4_flight_19 : decode cX4_flight 19 = .ok (.iconst 0, 1) := by decide +kernel
theorem dX4_flight_20 : decode cX4_flight 20 = .ok (.istore 7, 2) := by decide +kernel
theorem dX4_flight_22 : decode cX4_flight 22 = .ok (.iload 7, 2) := by decide +kernel
theorem dX4_flight_24 : decode cX4_flight 24 = .ok (.aload_n 1, 1) := by decide +kernel
theorem dX4_flight_25 : decode cX4_flight 25 = .ok (.getfield 15, 3) := by decide +kernel
theorem dX4_flight_28 : decode cX4_flight 28 = .ok (.if_icmp .ge 48, 3) := by decide +kernel
theorem dX4_flight_31 : decode cX4_flight 31 = .ok (.iload 4, 2) := by decide +kernel
theorem dX4_flight_33 : decode cX4_flight 33 = .ok (.iload 7, 2) := by decide +kernel
theorem dX4_flight_35 : decode cX4_flight 35 = .ok (.ishr, 1) := by decide +kernel
theorem dX4_flight_36 : decode cX4_flight 36 = .ok (.iconst 1, 1) := by decide +kernel
theorem dX4_flight_37 : decode cX4_flight 37 = .ok (.iand, 1) := by decide +kernel
theorem dX4_flight_38 : decode cX4_flight 38 = .ok (.ifCond .eq 32, 3) := by decide +kernel
theorem dX4_flight_41 : decode cX4_flight 41 = .ok (.aload_n 1, 1) := by decide +kernel
theorem dX4_flight_42 : decode cX4_flight 42 = .ok (.getfield 21, 3) := by decide +kernel
theorem dX4_flight_45 : decode cX4_flight 45 = .ok (.getfield 25, 3) := by decide +kernel
theorem dX4_flight_48 : decode cX4_flight 48 = .ok (.iload 7, 2) := by decide +kernel
theorem dX4_flight_50 : decode cX4_flight 50 = .ok (.iaload, 1) := by decide +kernel
theorem dX4_flight_51 : decode cX4_flight 51 = .ok (.iload_n 3, 1) := by decide +kernel
theorem dX4_flight_52 : decode cX4_flight 52 = .ok (.if_icmp .ne 6, 3) := by decide +kernel
theorem dX4_flight_55 : decode cX4_flight 55 = .ok (.iload 5, 2) := by decide +kernel
theorem dX4_flight_57 : decode cX4_flight 57 = .ok (.ireturn, 1) := by decide +kernel
theorem dX4_flight_58 : decode cX4_flight 58 = .ok (.iload 6, 2) := by decide +kernel
theorem dX4_flight_60 : decode cX4_flight 60 = .ok (.aload_n 1, 1) := by decide +kernel
theorem dX4_flight_61 : decode cX4_flight 61 = .ok (.getfield 30, 3) := by decide +kernel
theorem dX4_flight_64 : decode cX4_flight 64 = .ok (.iload 7, 2) := by decide +kernel
theorem dX4_flight_66 : decode cX4_flight 66 = .ok (.iaload, 1) := by decide +kernel
theorem dX4_flight_67 : decode cX4_flight 67 = .ok (.ior, 1) := by decide +kernel
theorem dX4_flight_68 : decode cX4_flight 68 = .ok (.istore 6, 2) := by decide +kernel
theorem dX4_flight_70 : decode cX4_flight 70 = .ok (.iinc 7 1, 3) := by decide +kernel
theorem dX4_flight_73 : decode cX4_flight 73 = .ok (.goto (-51), 3) := by decide +kernel
theorem dX4_flight_76 : decode cX4_flight 76 = .ok (.iload 6, 2) := by decide +kernel
theorem dX4_flight_78 : decode cX4_flight 78 = .ok (.istore 4, 2) := by decide +kernel
theorem dX4_flight_80 : decode cX4_flight 80 = .ok (.iinc 5 1, 3) := by decide +kernel
theorem dX4_flight_83 : decode cX4_flight 83 = .ok (.goto (-75), 3) := by decide +kernel
theorem dX4_flight_86 : decode cX4_flight 86 = .ok (.iconst (-1), 1) := by decide +kernel
theorem dX4_flight_87 : decode cX4_flight 87 = .ok (.ireturn, 1) := by decide +kernel
theorem dX4_cut_0 : decode cX4_cut 0 = .ok (.bipush 64, 2) := by decide +kernel
theorem dX4_cut_2 : decode cX4_cut 2 = .ok (.istore 4, 2) := by decide +kernel
theorem dX4_cut_4 : decode cX4_cut 4 = .ok (.iconst 0, 1) := by decide +kernel
theorem dX4_cut_5 : decode cX4_cut 5 = .ok (.istore 5, 2) := by decide +kernel
theorem dX4_cut_7 : decode cX4_cut 7 = .ok (.iload 5, 2) := by decide +kernel
theorem dX4_cut_9 : decode cX4_cut 9 = .ok (.iconst 1, 1) := by decide +kernel
theorem dX4_cut_10 : decode cX4_cut 10 = .ok (.aload_n 1, 1) := by decide +kernel
theorem dX4_cut_11 : decode cX4_cut 11 = .ok (.getfield 15, 3) := by decide +kernel
theorem dX4_cut_14 : decode cX4_cut 14 = .ok (.ishl, 1) := by decide +kernel
theorem dX4_cut_15 : decode cX4_cut 15 = .ok (.if_icmp .ge 88, 3) := by decide +kernel
theorem dX4_cut_18 : decode cX4_cut 18 = .ok (.iload 5, 2) := by decide +kernel
theorem dX4_cut_20 : decode cX4_cut 20 = .ok (.iload_n 2, 1) := by decide +kernel
theorem dX4_cut_21 : decode cX4_cut 21 = .ok (.ishr, 1) := by decide +kernel
theorem dX4_cut_22 : decode cX4_cut 22 = .ok (.iconst 1, 1) := by decide +kernel
theorem dX4_cut_23 : decode cX4_cut 23 = .ok (.iand, 1) := by decide +kernel
theorem dX4_cut_24 : decode cX4_cut 24 = .ok (.iconst 1, 1) := by decide +kernel
theorem dX4_cut_25 : decode cX4_cut 25 = .ok (.if_icmp .ne 72, 3) := by decide +kernel
theorem dX4_cut_28 : decode cX4_cut 28 = .ok (.iload 5, 2) := by decide +kernel
theorem dX4_cut_30 : decode cX4_cut 30 = .ok (.iload_n 3, 1) := by decide +kernel
theorem dX4_cut_31 : decode cX4_cut 31 = .ok (.ishr, 1) := by decide +kernel
theorem dX4_cut_32 : decode cX4_cut 32 = .ok (.iconst 1, 1) := by decide +kernel
theorem dX4_cut_33 : decode cX4_cut 33 = .ok (.iand, 1) := by decide +kernel
theorem dX4_cut_34 : decode cX4_cut 34 = .ok (.ifCond .ne 63, 3) := by decide +kernel
theorem dX4_cut_37 : decode cX4_cut 37 = .ok (.iconst 0, 1) := by decide +kernel
theorem dX4_cut_38 : decode cX4_cut 38 = .ok (.istore 6, 2) := by decide +kernel
theorem dX4_cut_40 : decode cX4_cut 40 = .ok (.iconst 0, 1) := by decide +kernel
theorem dX4_cut_41 : decode cX4_cut 41 = .ok (.istore 7, 2) := by decide +kernel
theorem dX4_cut_43 : decode cX4_cut 43 = .ok (.iload 7, 2) := by decide +kernel
theorem dX4_cut_45 : decode cX4_cut 45 = .ok (.aload_n 1, 1) := by decide +kernel
theorem dX4_cut_46 : decode cX4_cut 46 = .ok (.getfield 15, 3) := by decide +kernel
theorem dX4_cut_49 : decode cX4_cut 49 = .ok (.if_icmp .ge 39, 3) := by decide +kernel
theorem dX4_cut_52 : decode cX4_cut 52 = .ok (.iload 5, 2) := by decide +kernel
theorem dX4_cut_54 : decode cX4_cut 54 = .ok (.iload 7, 2) := by decide +kernel
theorem dX4_cut_56 : decode cX4_cut 56 = .ok (.ishr, 1) := by decide +kernel
theorem dX4_cut_57 : decode cX4_cut 57 = .ok (.iconst 1, 1) := by decide +kernel
theorem dX4_cut_58 : decode cX4_cut 58 = .ok (.iand, 1) := by decide +kernel
theorem dX4_cut_59 : decode cX4_cut 59 = .ok (.ifCond .eq 23, 3) := by decide +kernel
theorem dX4_cut_62 : decode cX4_cut 62 = .ok (.iload 6, 2) := by decide +kernel
theorem dX4_cut_64 : decode cX4_cut 64 = .ok (.aload_n 1, 1) := by decide +kernel
theorem dX4_cut_65 : decode cX4_cut 65 = .ok (.getfield 30, 3) := by decide +kernel
theorem dX4_cut_68 : decode cX4_cut 68 = .ok (.iload 7, 2) := by decide +kernel
theorem dX4_cut_70 : decode cX4_cut 70 = .ok (.iaload, 1) := by decide +kernel
theorem dX4_cut_71 : decode cX4_cut 71 = .ok (.iload 5, 2) := by decide +kernel
theorem dX4_cut_73 : decode cX4_cut 73 = .ok (.iconst (-1), 1) := by decide +kernel
theorem dX4_cut_74 : decode cX4_cut 74 = .ok (.ixor, 1) := by decide +kernel
theorem dX4_cut_75 : decode cX4_cut 75 = .ok (.iand, 1) := by decide +kernel
theorem dX4_cut_76 : decode cX4_cut 76 = .ok (.invokestatic 33, 3) := by decide +kernel
theorem dX4_cut_79 : decode cX4_cut 79 = .ok (.iadd, 1) := by decide +kernel
theorem dX4_cut_80 : decode cX4_cut 80 = .ok (.istore 6, 2) := by decide +kernel
theorem dX4_cut_82 : decode cX4_cut 82 = .ok (.iinc 7 1, 3) := by decide +kernel
theorem dX4_cut_85 : decode cX4_cut 85 = .ok (.goto (-42), 3) := by decide +kernel
theorem dX4_cut_88 : decode cX4_cut 88 = .ok (.iload 4, 2) := by decide +kernel
theorem dX4_cut_90 : decode cX4_cut 90 = .ok (.iload 6, 2) := by decide +kernel
theorem dX4_cut_92 : decode cX4_cut 92 = .ok (.invokestatic 39, 3) := by decide +kernel
theorem dX4_cut_95 : decode cX4_cut 95 = .ok (.istore 4, 2) := by decide +kernel
theorem dX4_cut_97 : decode cX4_cut 97 = .ok (.iinc 5 1, 3) := by decide +kernel
theorem dX4_cut_100 : decode cX4_cut 100 = .ok (.goto (-93), 3) := by decide +kernel
theorem dX4_cut_103 : decode cX4_cut 103 = .ok (.iload 4, 2) := by decide +kernel
theorem dX4_cut_105 : decode cX4_cut 105 = .ok (.ireturn, 1) := by decide +kernel
theorem dX4_winningPot_0 : decode cX4_winningPot 0 = .ok (.iconst 0, 1) := by decide +kernel
theorem dX4_winningPot_1 : decode cX4_winningPot 1 = .ok (.istore_n 2, 1) := by decide +kernel
theorem dX4_winningPot_2 : decode cX4_winningPot 2 = .ok (.iload_n 2, 1) := by decide +kernel
theorem dX4_winningPot_3 : decode cX4_winningPot 3 = .ok (.aload_n 1, 1) := by decide +kernel
theorem dX4_winningPot_4 : decode cX4_winningPot 4 = .ok (.getfield 15, 3) := by decide +kernel
theorem dX4_winningPot_7 : decode cX4_winningPot 7 = .ok (.if_icmp .ge 29, 3) := by decide +kernel
theorem dX4_winningPot_10 : decode cX4_winningPot 10 = .ok (.aload_n 0, 1) := by decide +kernel
theorem dX4_winningPot_11 : decode cX4_winningPot 11 = .ok (.aload_n 1, 1) := by decide +kernel
theorem dX4_winningPot_12 : decode cX4_winningPot 12 = .ok (.iload_n 2, 1) := by decide +kernel
theorem dX4_winningPot_13 : decode cX4_winningPot 13 = .ok (.invokevirtual 45, 3) := by decide +kernel
theorem dX4_winningPot_16 : decode cX4_winningPot 16 = .ok (.aload_n 1, 1) := by decide +kernel
theorem dX4_winningPot_17 : decode cX4_winningPot 17 = .ok (.getfield 21, 3) := by decide +kernel
theorem dX4_winningPot_20 : decode cX4_winningPot 20 = .ok (.getfield 49, 3) := by decide +kernel
theorem dX4_winningPot_23 : decode cX4_winningPot 23 = .ok (.iload_n 2, 1) := by decide +kernel
theorem dX4_winningPot_24 : decode cX4_winningPot 24 = .ok (.iaload, 1) := by decide +kernel
theorem dX4_winningPot_25 : decode cX4_winningPot 25 = .ok (.if_icmp .ge 5, 3) := by decide +kernel
theorem dX4_winningPot_28 : decode cX4_winningPot 28 = .ok (.iload_n 2, 1) := by decide +kernel
theorem dX4_winningPot_29 : decode cX4_winningPot 29 = .ok (.ireturn, 1) := by decide +kernel
theorem dX4_winningPot_30 : decode cX4_winningPot 30 = .ok (.iinc 2 1, 3) := by decide +kernel
theorem dX4_winningPot_33 : decode cX4_winningPot 33 = .ok (.goto (-31), 3) := by decide +kernel
theorem dX4_winningPot_36 : decode cX4_winningPot 36 = .ok (.iconst (-1), 1) := by decide +kernel
theorem dX4_winningPot_37 : decode cX4_winningPot 37 = .ok (.ireturn, 1) := by decide +kernel
theorem dX4_leftOf_0 : decode cX4_leftOf 0 = .ok (.aload_n 1, 1) := by decide +kernel
theorem dX4_leftOf_1 : decode cX4_leftOf 1 = .ok (.getfield 21, 3) := by decide +kernel
theorem dX4_leftOf_4 : decode cX4_leftOf 4 = .ok (.getfield 49, 3) := by decide +kernel
theorem dX4_leftOf_7 : decode cX4_leftOf 7 = .ok (.iload_n 2, 1) := by decide +kernel
theorem dX4_leftOf_8 : decode cX4_leftOf 8 = .ok (.iaload, 1) := by decide +kernel
theorem dX4_leftOf_9 : decode cX4_leftOf 9 = .ok (.istore_n 3, 1) := by decide +kernel
theorem dX4_leftOf_10 : decode cX4_leftOf 10 = .ok (.iconst 0, 1) := by decide +kernel
theorem dX4_leftOf_11 : decode cX4_leftOf 11 = .ok (.istore 4, 2) := by decide +kernel
theorem dX4_leftOf_13 : decode cX4_leftOf 13 = .ok (.iload 4, 2) := by decide +kernel
theorem dX4_leftOf_15 : decode cX4_leftOf 15 = .ok (.aload_n 1, 1) := by decide +kernel
theorem dX4_leftOf_16 : decode cX4_leftOf 16 = .ok (.getfield 15, 3) := by decide +kernel
theorem dX4_leftOf_19 : decode cX4_leftOf 19 = .ok (.if_icmp .ge 22, 3) := by decide +kernel
theorem dX4_leftOf_22 : decode cX4_leftOf 22 = .ok (.iload_n 3, 1) := by decide +kernel
theorem dX4_leftOf_23 : decode cX4_leftOf 23 = .ok (.aload_n 1, 1) := by decide +kernel
theorem dX4_leftOf_24 : decode cX4_leftOf 24 = .ok (.getfield 21, 3) := by decide +kernel
theorem dX4_leftOf_27 : decode cX4_leftOf 27 = .ok (.getfield 49, 3) := by decide +kernel
theorem dX4_leftOf_30 : decode cX4_leftOf 30 = .ok (.iload 4, 2) := by decide +kernel
theorem dX4_leftOf_32 : decode cX4_leftOf 32 = .ok (.iaload, 1) := by decide +kernel
theorem dX4_leftOf_33 : decode cX4_leftOf 33 = .ok (.ixor, 1) := by decide +kernel
theorem dX4_leftOf_34 : decode cX4_leftOf 34 = .ok (.istore_n 3, 1) := by decide +kernel
theorem dX4_leftOf_35 : decode cX4_leftOf 35 = .ok (.iinc 4 1, 3) := by decide +kernel
theorem dX4_leftOf_38 : decode cX4_leftOf 38 = .ok (.goto (-25), 3) := by decide +kernel
theorem dX4_leftOf_41 : decode cX4_leftOf 41 = .ok (.iload_n 3, 1) := by decide +kernel
theorem dX4_leftOf_42 : decode cX4_leftOf 42 = .ok (.ireturn, 1) := by decide +kernel
theorem dX4_fewest_0 : decode cX4_fewest 0 = .ok (.iconst 0, 1) := by decide +kernel
theorem dX4_fewest_1 : decode cX4_fewest 1 = .ok (.istore_n 3, 1) := by decide +kernel
theorem dX4_fewest_2 : decode cX4_fewest 2 = .ok (.iconst 0, 1) := by decide +kernel
theorem dX4_fewest_3 : decode cX4_fewest 3 = .ok (.istore 4, 2) := by decide +kernel
theorem dX4_fewest_5 : decode cX4_fewest 5 = .ok (.iload 4, 2) := by decide +kernel
theorem dX4_fewest_7 : decode cX4_fewest 7 = .ok (.aload_n 1, 1) := by decide +kernel
theorem dX4_fewest_8 : decode cX4_fewest 8 = .ok (.getfield 15, 3) := by decide +kernel
theorem dX4_fewest_11 : decode cX4_fewest 11 = .ok (.if_icmp .ge 44, 3) := by decide +kernel
theorem dX4_fewest_14 : decode cX4_fewest 14 = .ok (.aload_n 1, 1) := by decide +kernel
theorem dX4_fewest_15 : decode cX4_fewest 15 = .ok (.getfield 21, 3) := by decide +kernel
theorem dX4_fewest_18 : decode cX4_fewest 18 = .ok (.getfield 49, 3) := by decide +kernel
theorem dX4_fewest_21 : decode cX4_fewest 21 = .ok (.iload 4, 2) := by decide +kernel
theorem dX4_fewest_23 : decode cX4_fewest 23 = .ok (.iaload, 1) := by decide +kernel
theorem dX4_fewest_24 : decode cX4_fewest 24 = .ok (.iload_n 2, 1) := by decide +kernel
theorem dX4_fewest_25 : decode cX4_fewest 25 = .ok (.if_icmp .le 5, 3) := by decide +kernel
theorem dX4_fewest_28 : decode cX4_fewest 28 = .ok (.iconst (-1), 1) := by decide +kernel
theorem dX4_fewest_29 : decode cX4_fewest 29 = .ok (.ireturn, 1) := by decide +kernel
theorem dX4_fewest_30 : decode cX4_fewest 30 = .ok (.aload_n 1, 1) := by decide +kernel
theorem dX4_fewest_31 : decode cX4_fewest 31 = .ok (.getfield 21, 3) := by decide +kernel
theorem dX4_fewest_34 : decode cX4_fewest 34 = .ok (.iload 4, 2) := by decide +kernel
theorem dX4_fewest_36 : decode cX4_fewest 36 = .ok (.invokevirtual 52, 3) := by decide +kernel
theorem dX4_fewest_39 : decode cX4_fewest 39 = .ok (.ifCond .eq 10, 3) := by decide +kernel
theorem dX4_fewest_42 : decode cX4_fewest 42 = .ok (.iload_n 3, 1) := by decide +kernel
theorem dX4_fewest_43 : decode cX4_fewest 43 = .ok (.iconst 1, 1) := by decide +kernel
theorem dX4_fewest_44 : decode cX4_fewest 44 = .ok (.iload 4, 2) := by decide +kernel
theorem dX4_fewest_46 : decode cX4_fewest 46 = .ok (.ishl, 1) := by decide +kernel
theorem dX4_fewest_47 : decode cX4_fewest 47 = .ok (.ior, 1) := by decide +kernel
theorem dX4_fewest_48 : decode cX4_fewest 48 = .ok (.istore_n 3, 1) := by decide +kernel
theorem dX4_fewest_49 : decode cX4_fewest 49 = .ok (.iinc 4 1, 3) := by decide +kernel
theorem dX4_fewest_52 : decode cX4_fewest 52 = .ok (.goto (-47), 3) := by decide +kernel
theorem dX4_fewest_55 : decode cX4_fewest 55 = .ok (.aload_n 0, 1) := by decide +kernel
theorem dX4_fewest_56 : decode cX4_fewest 56 = .ok (.getfield 9, 3) := by decide +kernel
theorem dX4_fewest_59 : decode cX4_fewest 59 = .ok (.iconst 0, 1) := by decide +kernel
theorem dX4_fewest_60 : decode cX4_fewest 60 = .ok (.iload_n 2, 1) := by decide +kernel
theorem dX4_fewest_61 : decode cX4_fewest 61 = .ok (.iastore, 1) := by decide +kernel
theorem dX4_fewest_62 : decode cX4_fewest 62 = .ok (.iconst 1, 1) := by decide +kernel
theorem dX4_fewest_63 : decode cX4_fewest 63 = .ok (.istore 4, 2) := by decide +kernel
theorem dX4_fewest_65 : decode cX4_fewest 65 = .ok (.iload 4, 2) := by decide +kernel
theorem dX4_fewest_67 : decode cX4_fewest 67 = .ok (.iload_n 3, 1) := by decide +kernel
theorem dX4_fewest_68 : decode cX4_fewest 68 = .ok (.if_icmp .gt 33, 3) := by decide +kernel
theorem dX4_fewest_71 : decode cX4_fewest 71 = .ok (.iload 4, 2) := by decide +kernel
theorem dX4_fewest_73 : decode cX4_fewest 73 = .ok (.iload_n 3, 1) := by decide +kernel
theorem dX4_fewest_74 : decode cX4_fewest 74 = .ok (.iconst (-1), 1) := by decide +kernel
theorem dX4_fewest_75 : decode cX4_fewest 75 = .ok (.ixor, 1) := by decide +kernel
theorem dX4_fewest_76 : decode cX4_fewest 76 = .ok (.iand, 1) := by decide +kernel
theorem dX4_fewest_77 : decode cX4_fewest 77 = .ok (.ifCond .ne 18, 3) := by decide +kernel
theorem dX4_fewest_80 : decode cX4_fewest 80 = .ok (.aload_n 0, 1) := by decide +kernel
theorem dX4_fewest_81 : decode cX4_fewest 81 = .ok (.getfield 9, 3) := by decide +kernel
theorem dX4_fewest_84 : decode cX4_fewest 84 = .ok (.iload 4, 2) := by decide +kernel
theorem dX4_fewest_86 : decode cX4_fewest 86 = .ok (.aload_n 0, 1) := by decide +kernel
theorem dX4_fewest_87 : decode cX4_fewest 87 = .ok (.aload_n 1, 1) := by decide +kernel
theorem dX4_fewest_88 : decode cX4_fewest 88 = .ok (.iload 4, 2) := by decide +kernel
theorem dX4_fewest_90 : decode cX4_fewest 90 = .ok (.iload_n 2, 1) := by decide +kernel
theorem dX4_fewest_91 : decode cX4_fewest 91 = .ok (.invokevirtual 56, 3) := by decide +kernel
theorem dX4_fewest_94 : decode cX4_fewest 94 = .ok (.iastore, 1) := by decide +kernel
theorem dX4_fewest_95 : decode cX4_fewest 95 = .ok (.iinc 4 1, 3) := by decide +kernel
theorem dX4_fewest_98 : decode cX4_fewest 98 = .ok (.goto (-33), 3) := by decide +kernel
theorem dX4_fewest_101 : decode cX4_fewest 101 = .ok (.aload_n 0, 1) := by decide +kernel
theorem dX4_fewest_102 : decode cX4_fewest 102 = .ok (.getfield 9, 3) := by decide +kernel
theorem dX4_fewest_105 : decode cX4_fewest 105 = .ok (.iload_n 3, 1) := by decide +kernel
theorem dX4_fewest_106 : decode cX4_fewest 106 = .ok (.iaload, 1) := by decide +kernel
theorem dX4_fewest_107 : decode cX4_fewest 107 = .ok (.sipush 1000, 3) := by decide +kernel
theorem dX4_fewest_110 : decode cX4_fewest 110 = .ok (.idiv, 1) := by decide +kernel
theorem dX4_fewest_111 : decode cX4_fewest 111 = .ok (.ireturn, 1) := by decide +kernel
theorem dX4_leastFilled_0 : decode cX4_leastFilled 0 = .ok (.ldc 60, 2) := by decide +kernel
theorem dX4_leastFilled_2 : decode cX4_leastFilled 2 = .ok (.istore 4, 2) := by decide +kernel
theorem dX4_leastFilled_4 : decode cX4_leastFilled 4 = .ok (.iconst 0, 1) := by decide +kernel
theorem dX4_leastFilled_5 : decode cX4_leastFilled 5 = .ok (.istore 5, 2) := by decide +kernel
theorem dX4_leastFilled_7 : decode cX4_leastFilled 7 = .ok (.iload 5, 2) := by decide +kernel
theorem dX4_leastFilled_9 : decode cX4_leastFilled 9 = .ok (.aload_n 1, 1) := by decide +kernel
theorem dX4_leastFilled_10 : decode cX4_leastFilled 10 = .ok (.getfield 15, 3) := by decide +kernel
theorem dX4_leastFilled_13 : decode cX4_leastFilled 13 = .ok (.if_icmp .ge 96, 3) := by decide +kernel
theorem dX4_leastFilled_16 : decode cX4_leastFilled 16 = .ok (.iload_n 2, 1) := by decide +kernel
theorem dX4_leastFilled_17 : decode cX4_leastFilled 17 = .ok (.iload 5, 2) := by decide +kernel
theorem dX4_leastFilled_19 : decode cX4_leastFilled 19 = .ok (.ishr, 1) := by decide +kernel
theorem dX4_leastFilled_20 : decode cX4_leastFilled 20 = .ok (.iconst 1, 1) := by decide +kernel
theorem dX4_leastFilled_21 : decode cX4_leastFilled 21 = .ok (.iand, 1) := by decide +kernel
theorem dX4_leastFilled_22 : decode cX4_leastFilled 22 = .ok (.ifCond .eq 81, 3) := by decide +kernel
theorem dX4_leastFilled_25 : decode cX4_leastFilled 25 = .ok (.aload_n 0, 1) := by decide +kernel
theorem dX4_leastFilled_26 : decode cX4_leastFilled 26 = .ok (.getfield 9, 3) := by decide +kernel
theorem dX4_leastFilled_29 : decode cX4_leastFilled 29 = .ok (.iload_n 2, 1) := by decide +kernel
theorem dX4_leastFilled_30 : decode cX4_leastFilled 30 = .ok (.iconst 1, 1) := by decide +kernel
theorem dX4_leastFilled_31 : decode cX4_leastFilled 31 = .ok (.iload 5, 2) := by decide +kernel
theorem dX4_leastFilled_33 : decode cX4_leastFilled 33 = .ok (.ishl, 1) := by decide +kernel
theorem dX4_leastFilled_34 : decode cX4_leastFilled 34 = .ok (.iconst (-1), 1) := by decide +kernel
theorem dX4_leastFilled_35 : decode cX4_leastFilled 35 = .ok (.ixor, 1) := by decide +kernel
theorem dX4_leastFilled_36 : decode cX4_leastFilled 36 = .ok (.iand, 1) := by decide +kernel
theorem dX4_leastFilled_37 : decode cX4_leastFilled 37 = .ok (.iaload, 1) := by decide +kernel
theorem dX4_leastFilled_38 : decode cX4_leastFilled 38 = .ok (.istore 6, 2) := by decide +kernel
theorem dX4_leastFilled_40 : decode cX4_leastFilled 40 = .ok (.aload_n 1, 1) := by decide +kernel
theorem dX4_leastFilled_41 : decode cX4_leastFilled 41 = .ok (.getfield 21, 3) := by decide +kernel
theorem dX4_leastFilled_44 : decode cX4_leastFilled 44 = .ok (.getfield 49, 3) := by decide +kernel
theorem dX4_leastFilled_47 : decode cX4_leastFilled 47 = .ok (.iload 5, 2) := by decide +kernel
theorem dX4_leastFilled_49 : decode cX4_leastFilled 49 = .ok (.iaload, 1) := by decide +kernel
theorem dX4_leastFilled_50 : decode cX4_leastFilled 50 = .ok (.istore 7, 2) := by decide +kernel
theorem dX4_leastFilled_52 : decode cX4_leastFilled 52 = .ok (.iload 6, 2) := by decide +kernel
theorem dX4_leastFilled_54 : decode cX4_leastFilled 54 = .ok (.sipush 1000, 3) := by decide +kernel
theorem dX4_leastFilled_57 : decode cX4_leastFilled 57 = .ok (.irem, 1) := by decide +kernel
theorem dX4_leastFilled_58 : decode cX4_leastFilled 58 = .ok (.iload 7, 2) := by decide +kernel
theorem dX4_leastFilled_60 : decode cX4_leastFilled 60 = .ok (.iadd, 1) := by decide +kernel
theorem dX4_leastFilled_61 : decode cX4_leastFilled 61 = .ok (.istore 8, 2) := by decide +kernel
theorem dX4_leastFilled_63 : decode cX4_leastFilled 63 = .ok (.iload 8, 2) := by decide +kernel
theorem dX4_leastFilled_65 : decode cX4_leastFilled 65 = .ok (.iload_n 3, 1) := by decide +kernel
theorem dX4_leastFilled_66 : decode cX4_leastFilled 66 = .ok (.if_icmp .gt 11, 3) := by decide +kernel
theorem dX4_leastFilled_69 : decode cX4_leastFilled 69 = .ok (.iload 6, 2) := by decide +kernel
theorem dX4_leastFilled_71 : decode cX4_leastFilled 71 = .ok (.iload 7, 2) := by decide +kernel
theorem dX4_leastFilled_73 : decode cX4_leastFilled 73 = .ok (.iadd, 1) := by decide +kernel
theorem dX4_leastFilled_74 : decode cX4_leastFilled 74 = .ok (.goto 18, 3) := by decide +kernel
theorem dX4_leastFilled_77 : decode cX4_leastFilled 77 = .ok (.iload 6, 2) := by decide +kernel
theorem dX4_leastFilled_79 : decode cX4_leastFilled 79 = .ok (.sipush 1000, 3) := by decide +kernel
theorem dX4_leastFilled_82 : decode cX4_leastFilled 82 = .ok (.idiv, 1) := by decide +kernel
theorem dX4_leastFilled_83 : decode cX4_leastFilled 83 = .ok (.iconst 1, 1) := by decide +kernel
theorem dX4_leastFilled_84 : decode cX4_leastFilled 84 = .ok (.iadd, 1) := by decide +kernel
theorem dX4_leastFilled_85 : decode cX4_leastFilled 85 = .ok (.sipush 1000, 3) := by decide +kernel
theorem dX4_leastFilled_88 : decode cX4_leastFilled 88 = .ok (.imul, 1) := by decide +kernel
theorem dX4_leastFilled_89 : decode cX4_leastFilled 89 = .ok (.iload 7, 2) := by decide +kernel
theorem dX4_leastFilled_91 : decode cX4_leastFilled 91 = .ok (.iadd, 1) := by decide +kernel
theorem dX4_leastFilled_92 : decode cX4_leastFilled 92 = .ok (.istore 9, 2) := by decide +kernel
theorem dX4_leastFilled_94 : decode cX4_leastFilled 94 = .ok (.iload 4, 2) := by decide +kernel
theorem dX4_leastFilled_96 : decode cX4_leastFilled 96 = .ok (.iload 9, 2) := by decide +kernel
theorem dX4_leastFilled_98 : decode cX4_leastFilled 98 = .ok (.invokestatic 39, 3) := by decide +kernel
theorem dX4_leastFilled_101 : decode cX4_leastFilled 101 = .ok (.istore 4, 2) := by decide +kernel
theorem dX4_leastFilled_103 : decode cX4_leastFilled 103 = .ok (.iinc 5 1, 3) := by decide +kernel
theorem dX4_leastFilled_106 : decode cX4_leastFilled 106 = .ok (.goto (-99), 3) := by decide +kernel
theorem dX4_leastFilled_109 : decode cX4_leastFilled 109 = .ok (.iload 4, 2) := by decide +kernel
theorem dX4_leastFilled_111 : decode cX4_leastFilled 111 = .ok (.ireturn, 1) := by decide +kernel
theorem dX5_init_0 : decode cX5_init 0 = .ok (.aload_n 0, 1) := by decide +kernel
theorem dX5_init_1 : decode cX5_init 1 = .ok (.invokespecial 3, 3) := by decide +kernel
theorem dX5_init_4 : decode cX5_init 4 = .ok (.aload_n 0, 1) := by decide +kernel
theorem dX5_init_5 : decode cX5_init 5 = .ok (.bipush 8, 2) := by decide +kernel
theorem dX5_init_7 : decode cX5_init 7 = .ok (.newarray .int, 2) := by decide +kernel
theorem dX5_init_9 : decode cX5_init 9 = .ok (.putfield 9, 3) := by decide +kernel
theorem dX5_init_12 : decode cX5_init 12 = .ok (.aload_n 0, 1) := by decide +kernel
theorem dX5_init_13 : decode cX5_init 13 = .ok (.bipush 32, 2) := by decide +kernel
theorem dX5_init_15 : decode cX5_init 15 = .ok (.newarray .int, 2) := by decide +kernel
theorem dX5_init_17 : decode cX5_init 17 = .ok (.putfield 15, 3) := by decide +kernel
theorem dX5_init_20 : decode cX5_init 20 = .ok (.return_, 1) := by decide +kernel
theorem dX5_observe_0 : decode cX5_observe 0 = .ok (.aload_n 2, 1) := by decide +kernel
theorem dX5_observe_1 : decode cX5_observe 1 = .ok (.getfield 18, 3) := by decide +kernel
theorem dX5_observe_4 : decode cX5_observe 4 = .ok (.iload_n 3, 1) := by decide +kernel
theorem dX5_observe_5 : decode cX5_observe 5 = .ok (.iaload, 1) := by decide +kernel
theorem dX5_observe_6 : decode cX5_observe 6 = .ok (.istore 5, 2) := by decide +kernel
theorem dX5_observe_8 : decode cX5_observe 8 = .ok (.aload_n 0, 1) := by decide +kernel
theorem dX5_observe_9 : decode cX5_observe 9 = .ok (.getfield 9, 3) := by decide +kernel
theorem dX5_observe_12 : decode cX5_observe 12 = .ok (.iconst 0, 1) := by decide +kernel
theorem dX5_observe_13 : decode cX5_observe 13 = .ok (.aload_n 2, 1) := by decide +kernel
theorem dX5_observe_14 : decode cX5_observe 14 = .ok (.getfield 23, 3) := by decide +kernel
theorem dX5_observe_17 : decode cX5_observe 17 = .ok (.iload_n 3, 1) := by decide +kernel
theorem dX5_observe_18 : decode cX5_observe 18 = .ok (.iaload, 1) := by decide +kernel
theorem dX5_observe_19 : decode cX5_observe 19 = .ok (.iastore, 1) := by decide +kernel
theorem dX5_observe_20 : decode cX5_observe 20 = .ok (.aload_n 0, 1) := by decide +kernel
theorem dX5_observe_21 : decode cX5_observe 21 = .ok (.getfield 9, 3) := by decide +kernel
theorem dX5_observe_24 : decode cX5_observe 24 = .ok (.iconst 1, 1) := by decide +kernel
theorem dX5_observe_25 : decode cX5_observe 25 = .ok (.aload_n 2, 1) := by decide +kernel
theorem dX5_observe_26 : decode cX5_observe 26 = .ok (.getfield 26, 3) := by decide +kernel
theorem dX5_observe_29 : decode cX5_observe 29 = .ok (.iload_n 3, 1) := by decide +kernel
theorem dX5_observe_30 : decode cX5_observe 30 = .ok (.iaload, 1) := by decide +kernel
theorem dX5_observe_31 : decode cX5_observe 31 = .ok (.iastore, 1) := by decide +kernel
theorem dX5_observe_32 : decode cX5_observe 32 = .ok (.aload_n 0, 1) := by decide +kernel
theorem dX5_observe_33 : decode cX5_observe 33 = .ok (.getfield 9, 3) := by decide +kernel
theorem dX5_observe_36 : decode cX5_observe 36 = .ok (.iconst 2, 1) := by decide +kernel
theorem dX5_observe_37 : decode cX5_observe 37 = .ok (.aload_n 2, 1) := by decide +kernel
theorem dX5_observe_38 : decode cX5_observe 38 = .ok (.getfield 29, 3) := by decide +kernel
theorem dX5_observe_41 : decode cX5_observe 41 = .ok (.iload_n 3, 1) := by decide +kernel
theorem dX5_observe_42 : decode cX5_observe 42 = .ok (.iaload, 1) := by decide +kernel
theorem dX5_observe_43 : decode cX5_observe 43 = .ok (.iastore, 1) := by decide +kernel
theorem dX5_observe_44 : decode cX5_observe 44 = .ok (.aload_n 0, 1) := by decide +kernel
theorem dX5_observe_45 : decode cX5_observe 45 = .ok (.getfield 9, 3) := by decide +kernel
theorem dX5_observe_48 : decode cX5_observe 48 = .ok (.iconst 3, 1) := by decide +kernel
theorem dX5_observe_49 : decode cX5_observe 49 = .ok (.iload 5, 2) := by decide +kernel
theorem dX5_observe_51 : decode cX5_observe 51 = .ok (.invokestatic 32, 3) := by decide +kernel
theorem dX5_observe_54 : decode cX5_observe 54 = .ok (.ifCond .eq 13, 3) := by decide +kernel
theorem dX5_observe_57 : decode cX5_observe 57 = .ok (.aload_n 2, 1) := by decide +kernel
theorem dX5_observe_58 : decode cX5_observe 58 = .ok (.iload_n 3, 1) := by decide +kernel
theorem dX5_observe_59 : decode cX5_observe 59 = .ok (.iload 5, 2) := by decide +kernel
theorem dX5_observe_61 : decode cX5_observe 61 = .ok (.invokevirtual 36, 3) := by decide +kernel
theorem dX5_observe_64 : decode cX5_observe 64 = .ok (.goto 4, 3) := by decide +kernel
theorem dX5_observe_67 : decode cX5_observe 67 = .ok (.iconst 0, 1) := by decide +kernel
theorem dX5_observe_68 : decode cX5_observe 68 = .ok (.iastore, 1) := by decide +kernel
theorem dX5_observe_69 : decode cX5_observe 69 = .ok (.aload_n 0, 1) := by decide +kernel
theorem dX5_observe_70 : decode cX5_observe 70 = .ok (.getfield 9, 3) := by decide +kernel
theorem dX5_observe_73 : decode cX5_observe 73 = .ok (.iconst 4, 1) := by decide +kernel
theorem dX5_observe_74 : decode cX5_observe 74 = .ok (.iload 5, 2) := by decide +kernel
theorem dX5_observe_76 : decode cX5_observe 76 = .ok (.iastore, 1) := by decide +kernel
theorem dX5_observe_77 : decode cX5_observe 77 = .ok (.aload_n 0, 1) := by decide +kernel
theorem dX5_observe_78 : decode cX5_observe 78 = .ok (.getfield 9, 3) := by decide +kernel
theorem dX5_observe_81 : decode cX5_observe 81 = .ok (.iconst 5, 1) := by decide +kernel
theorem dX5_observe_82 : decode cX5_observe 82 = .ok (.aload_n 2, 1) := by decide +kernel
theorem dX5_observe_83 : decode cX5_observe 83 = .ok (.getfield 40, 3) := by decide +kernel
theorem dX5_observe_86 : decode cX5_observe 86 = .ok (.iastore, 1) := by decide +kernel
theorem dX5_observe_87 : decode cX5_observe 87 = .ok (.aload_n 0, 1) := by decide +kernel
theorem dX5_observe_88 : decode cX5_observe 88 = .ok (.getfield 9, 3) := by decide +kernel
theorem dX5_observe_91 : decode cX5_observe 91 = .ok (.bipush 6, 2) := by decide +kernel
theorem dX5_observe_93 : decode cX5_observe 93 = .ok (.iload 4, 2) := by decide +kernel
theorem dX5_observe_95 : decode cX5_observe 95 = .ok (.iastore, 1) := by decide +kernel
theorem dX5_observe_96 : decode cX5_observe 96 = .ok (.aload_n 0, 1) := by decide +kernel
theorem dX5_observe_97 : decode cX5_observe 97 = .ok (.getfield 9, 3) := by decide +kernel
theorem dX5_observe_100 : decode cX5_observe 100 = .ok (.bipush 7, 2) := by decide +kernel
theorem dX5_observe_102 : decode cX5_observe 102 = .ok (.aload_n 1, 1) := by decide +kernel
theorem dX5_observe_103 : decode cX5_observe 103 = .ok (.getfield 44, 3) := by decide +kernel
theorem dX5_observe_106 : decode cX5_observe 106 = .ok (.iload_n 3, 1) := by decide +kernel
theorem dX5_observe_107 : decode cX5_observe 107 = .ok (.iaload, 1) := by decide +kernel
theorem dX5_observe_108 : decode cX5_observe 108 = .ok (.invokestatic 49, 3) := by decide +kernel
theorem dX5_observe_111 : decode cX5_observe 111 = .ok (.iastore, 1) := by decide +kernel
theorem dX5_observe_112 : decode cX5_observe 112 = .ok (.return_, 1) := by decide +kernel
theorem dX5_grows_0 : decode cX5_grows 0 = .ok (.aload_n 0, 1) := by decide +kernel
theorem dX5_grows_1 : decode cX5_grows 1 = .ok (.aload_n 1, 1) := by decide +kernel
theorem dX5_grows_2 : decode cX5_grows 2 = .ok (.bipush 8, 2) := by decide +kernel
theorem dX5_grows_4 : decode cX5_grows 4 = .ok (.aload_n 0, 1) := by decide +kernel
theorem dX5_grows_5 : decode cX5_grows 5 = .ok (.getfield 9, 3) := by decide +kernel
theorem dX5_grows_8 : decode cX5_grows 8 = .ok (.iconst 2, 1) := by decide +kernel
theorem dX5_grows_9 : decode cX5_grows 9 = .ok (.iaload, 1) := by decide +kernel
theorem dX5_grows_10 : decode cX5_grows 10 = .ok (.iconst 5, 1) := by decide +kernel
theorem dX5_grows_11 : decode cX5_grows 11 = .ok (.isub, 1) := by decide +kernel
theorem dX5_grows_12 : decode cX5_grows 12 = .ok (.bipush (-99), 2) := by decide +kernel
theorem dX5_grows_14 : decode cX5_grows 14 = .ok (.bipush 99, 2) := by decide +kernel
theorem dX5_grows_16 : decode cX5_grows 16 = .ok (.invokevirtual 55, 3) := by decide +kernel
theorem dX5_grows_19 : decode cX5_grows 19 = .ok (.ireturn, 1) := by decide +kernel
theorem dX5_lowers_0 : decode cX5_lowers 0 = .ok (.aload_n 0, 1) := by decide +kernel
theorem dX5_lowers_1 : decode cX5_lowers 1 = .ok (.aload_n 1, 1) := by decide +kernel
theorem dX5_lowers_2 : decode cX5_lowers 2 = .ok (.bipush 9, 2) := by decide +kernel
theorem dX5_lowers_4 : decode cX5_lowers 4 = .ok (.aload_n 0, 1) := by decide +kernel
theorem dX5_lowers_5 : decode cX5_lowers 5 = .ok (.getfield 9, 3) := by decide +kernel
theorem dX5_lowers_8 : decode cX5_lowers 8 = .ok (.iconst 0, 1) := by decide +kernel
theorem dX5_lowers_9 : decode cX5_lowers 9 = .ok (.iaload, 1) := by decide +kernel
theorem dX5_lowers_10 : decode cX5_lowers 10 = .ok (.bipush 10, 2) := by decide +kernel
theorem dX5_lowers_12 : decode cX5_lowers 12 = .ok (.idiv, 1) := by decide +kernel
theorem dX5_lowers_13 : decode cX5_lowers 13 = .ok (.iconst 0, 1) := by decide +kernel
theorem dX5_lowers_14 : decode cX5_lowers 14 = .ok (.bipush 100, 2) := by decide +kernel
theorem dX5_lowers_16 : decode cX5_lowers 16 = .ok (.invokevirtual 55, 3) := by decide +kernel
theorem dX5_lowers_19 : decode cX5_lowers 19 = .ok (.ireturn, 1) := by decide +kernel
theorem dX5_seeds_0 : decode cX5_seeds 0 = .ok (.aload_n 0, 1) := by decide +kernel
theorem dX5_seeds_1 : decode cX5_seeds 1 = .ok (.aload_n 1, 1) := by decide +kernel
theorem dX5_seeds_2 : decode cX5_seeds 2 = .ok (.bipush 10, 2) := by decide +kernel
theorem dX5_seeds_4 : decode cX5_seeds 4 = .ok (.bipush 10, 2) := by decide +kernel
theorem dX5_seeds_6 : decode cX5_seeds 6 = .ok (.iconst 0, 1) := by decide +kernel
theorem dX5_seeds_7 : decode cX5_seeds 7 = .ok (.bipush 99, 2) := by decide +kernel
theorem dX5_seeds_9 : decode cX5_seeds 9 = .ok (.invokevirtual 55, 3) := by decide +kernel
theorem dX5_seeds_12 : decode cX5_seeds 12 = .ok (.ireturn, 1) := by decide +kernel
theorem dX5_told_0 : decode cX5_told 0 = .ok (.iload_n 3, 1) := by decide +kernel
theorem dX5_told_1 : decode cX5_told 1 = .ok (.istore 6, 2) := by decide +kernel
theorem dX5_told_3 : decode cX5_told 3 = .ok (.iconst 0, 1) := by decide +kernel
theorem dX5_told_4 : decode cX5_told 4 = .ok (.istore 7, 2) := by decide +kernel
theorem dX5_told_6 : decode cX5_told 6 = .ok (.iload 7, 2) := by decide +kernel
theorem dX5_told_8 : decode cX5_told 8 = .ok (.aload_n 1, 1) := by decide +kernel
theorem dX5_told_9 : decode cX5_told 9 = .ok (.getfield 59, 3) := by decide +kernel
theorem dX5_told_12 : decode cX5_told 12 = .ok (.if_icmp .ge 76, 3) := by decide +kernel
theorem dX5_told_15 : decode cX5_told 15 = .ok (.aload_n 1, 1) := by decide +kernel
theorem dX5_told_16 : decode cX5_told 16 = .ok (.iload 7, 2) := by decide +kernel
theorem dX5_told_18 : decode cX5_told 18 = .ok (.iconst 2, 1) := by decide +kernel
theorem dX5_told_19 : decode cX5_told 19 = .ok (.invokevirtual 63, 3) := by decide +kernel
theorem dX5_told_22 : decode cX5_told 22 = .ok (.istore 8, 2) := by decide +kernel
theorem dX5_told_24 : decode cX5_told 24 = .ok (.aload_n 1, 1) := by decide +kernel
theorem dX5_told_25 : decode cX5_told 25 = .ok (.iload 7, 2) := by decide +kernel
theorem dX5_told_27 : decode cX5_told 27 = .ok (.iconst 3, 1) := by decide +kernel
theorem dX5_told_28 : decode cX5_told 28 = .ok (.invokevirtual 63, 3) := by decide +kernel
theorem dX5_told_31 : decode cX5_told 31 = .ok (.istore 9, 2) := by decide +kernel
theorem dX5_told_33 : decode cX5_told 33 = .ok (.aload_n 1, 1) := by decide +kernel
theorem dX5_told_34 : decode cX5_told 34 = .ok (.iload 7, 2) := by decide +kernel
theorem dX5_told_36 : decode cX5_told 36 = .ok (.iconst 0, 1) := by decide +kernel
theorem dX5_told_37 : decode cX5_told 37 = .ok (.invokevirtual 63, 3) := by decide +kernel
theorem dX5_told_40 : decode cX5_told 40 = .ok (.iload_n 2, 1) := by decide +kernel
theorem dX5_told_41 : decode cX5_told 41 = .ok (.if_icmp .ne 41, 3) := by decide +kernel
theorem dX5_told_44 : decode cX5_told 44 = .ok (.iload 8, 2) := by decide +kernel
theorem dX5_told_46 : decode cX5_told 46 = .ok (.iload 9, 2) := by decide +kernel
theorem dX5_told_48 : decode cX5_told 48 = .ok (.if_icmp .eq 15, 3) := by decide +kernel
theorem dX5_told_51 : decode cX5_told 51 = .ok (.aload_n 0, 1) := by decide +kernel
theorem dX5_told_52 : decode cX5_told 52 = .ok (.aload_n 1, 1) := by decide +kernel
theorem dX5_told_53 : decode cX5_told 53 = .ok (.iload 8, 2) := by decide +kernel
theorem dX5_told_55 : decode cX5_told 55 = .ok (.iload 9, 2) := by decide +kernel
theorem dX5_told_57 : decode cX5_told 57 = .ok (.invokevirtual 66, 3) := by decide +kernel
theorem dX5_told_60 : decode cX5_told 60 = .ok (.ifCond .eq 22, 3) := by decide +kernel
theorem dX5_told_63 : decode cX5_told 63 = .ok (.aload_n 0, 1) := by decide +kernel
theorem dX5_told_64 : decode cX5_told 64 = .ok (.aload_n 1, 1) := by decide +kernel
theorem dX5_told_65 : decode cX5_told 65 = .ok (.aload_n 1, 1) := by decide +kernel
theorem dX5_told_66 : decode cX5_told 66 = .ok (.iload 7, 2) := by decide +kernel
theorem dX5_told_68 : decode cX5_told 68 = .ok (.iconst 1, 1) := by decide +kernel
theorem dX5_told_69 : decode cX5_told 69 = .ok (.invokevirtual 63, 3) := by decide +kernel
theorem dX5_told_72 : decode cX5_told 72 = .ok (.iload 8, 2) := by decide +kernel
theorem dX5_told_74 : decode cX5_told 74 = .ok (.invokevirtual 66, 3) := by decide +kernel
theorem dX5_told_77 : decode cX5_told 77 = .ok (.istore 6, 2) := by decide +kernel
theorem dX5_told_79 : decode cX5_told 79 = .ok (.goto 9, 3) := by decide +kernel
theorem dX5_told_82 : decode cX5_told 82 = .ok (.iinc 7 1, 3) := by decide +kernel
theorem dX5_told_85 : decode cX5_told 85 = .ok (.goto (-79), 3) := by decide +kernel
theorem dX5_told_88 : decode cX5_told 88 = .ok (.iload 4, 2) := by decide +kernel
theorem dX5_told_90 : decode cX5_told 90 = .ok (.iload 5, 2) := by decide +kernel
theorem dX5_told_92 : decode cX5_told 92 = .ok (.iload 6, 2) := by decide +kernel
theorem dX5_told_94 : decode cX5_told 94 = .ok (.invokestatic 70, 3) := by decide +kernel
theorem dX5_told_97 : decode cX5_told 97 = .ok (.invokestatic 75, 3) := by decide +kernel
theorem dX5_told_100 : decode cX5_told 100 = .ok (.ireturn, 1) := by decide +kernel
theorem dX5_worthOf_0 : decode cX5_worthOf 0 = .ok (.iconst 0, 1) := by decide +kernel
theorem dX5_worthOf_1 : decode cX5_worthOf 1 = .ok (.istore 4, 2) := by decide +kernel
theorem dX5_worthOf_3 : decode cX5_worthOf 3 = .ok (.iload_n 2, 1) := by decide +kernel
theorem dX5_worthOf_4 : decode cX5_worthOf 4 = .ok (.istore 5, 2) := by decide +kernel
theorem dX5_worthOf_6 : decode cX5_worthOf 6 = .ok (.iload 5, 2) := by decide +kernel
theorem dX5_worthOf_8 : decode cX5_worthOf 8 = .ok (.iload_n 3, 1) := by decide +kernel
theorem dX5_worthOf_9 : decode cX5_worthOf 9 = .ok (.if_icmp .ge 160, 3) := by decide +kernel
theorem dX5_worthOf_12 : decode cX5_worthOf 12 = .ok (.iload 5, 2) := by decide +kernel
theorem dX5_worthOf_14 : decode cX5_worthOf 14 = .ok (.aload_n 1, 1) := by decide +kernel
theorem dX5_worthOf_15 : decode cX5_worthOf 15 = .ok (.getfield 78, 3) := by decide +kernel
theorem dX5_worthOf_18 : decode cX5_worthOf 18 = .ok (.if_icmp .ge 151, 3) := by decide +kernel
theorem dX5_worthOf_21 : decode cX5_worthOf 21 = .ok (.aload_n 1, 1) := by decide +kernel
theorem dX5_worthOf_22 : decode cX5_worthOf 22 = .ok (.getfield 81, 3) := by decide +kernel
theorem dX5_worthOf_25 : decode cX5_worthOf 25 = .ok (.iload 5, 2) := by decide +kernel
theorem dX5_worthOf_27 : decode cX5_worthOf 27 = .ok (.iaload, 1) := by decide +kernel
theorem dX5_worthOf_28 : decode cX5_worthOf 28 = .ok (.istore 6, 2) := by decide +kernel
theorem dX5_worthOf_30 : decode cX5_worthOf 30 = .ok (.iload 6, 2) := by decide +kernel
theorem dX5_worthOf_32 : decode cX5_worthOf 32 = .ok (.bipush 64, 2) := by decide +kernel
theorem dX5_worthOf_34 : decode cX5_worthOf 34 = .ok (.if_icmp .ge 10, 3) := by decide +kernel
theorem dX5_worthOf_37 : decode cX5_worthOf 37 = .ok (.iload 6, 2) := by decide +kernel
theorem dX5_worthOf_39 : decode cX5_worthOf 39 = .ok (.bipush 7, 2) := by decide +kernel
theorem dX5_worthOf_41 : decode cX5_worthOf 41 = .ok (.if_icmp .gt 48, 3) := by decide +kernel
theorem dX5_worthOf_44 : decode cX5_worthOf 44 = .ok (.iload 4, 2) := by decide +kernel
theorem dX5_worthOf_46 : decode cX5_worthOf 46 = .ok (.aload_n 0, 1) := by decide +kernel
theorem dX5_worthOf_47 : decode cX5_worthOf 47 = .ok (.getfield 15, 3) := by decide +kernel
theorem dX5_worthOf_50 : decode cX5_worthOf 50 = .ok (.arraylength, 1) := by decide +kernel
theorem dX5_worthOf_51 : decode cX5_worthOf 51 = .ok (.if_icmp .ge 112, 3) := by decide +kernel
theorem dX5_worthOf_54 : decode cX5_worthOf 54 = .ok (.aload_n 0, 1) := by decide +kernel
theorem dX5_worthOf_55 : decode cX5_worthOf 55 = .ok (.getfield 15, 3) := by decide +kernel
theorem dX5_worthOf_58 : decode cX5_worthOf 58 = .ok (.iload 4, 2) := by decide +kernel
theorem dX5_worthOf_60 : decode cX5_worthOf 60 = .ok (.iload 6, 2) := by decide +kernel
theorem dX5_worthOf_62 : decode cX5_worthOf 62 = .ok (.bipush 64, 2) := by decide +kernel
theorem dX5_worthOf_64 : decode cX5_worthOf 64 = .ok (.if_icmp .lt 11, 3) := by decide +kernel
theorem dX5_worthOf_67 : decode cX5_worthOf 67 = .ok (.iload 6, 2) := by decide +kernel
theorem dX5_worthOf_69 : decode cX5_worthOf 69 = .ok (.bipush 64, 2) := by decide +kernel
theorem dX5_worthOf_71 : decode cX5_worthOf 71 = .ok (.isub, 1) := by decide +kernel
theorem dX5_worthOf_72 : decode cX5_worthOf 72 = .ok (.goto 10, 3) := by decide +kernel
theorem dX5_worthOf_75 : decode cX5_worthOf 75 = .ok (.aload_n 0, 1) := by decide +kernel
theorem dX5_worthOf_76 : decode cX5_worthOf 76 = .ok (.getfield 9, 3) := by decide +kernel
theorem dX5_worthOf_79 : decode cX5_worthOf 79 = .ok (.iload 6, 2) := by decide +kernel
theorem dX5_worthOf_81 : decode cX5_worthOf 81 = .ok (.iaload, 1) := by decide +kernel
theorem dX5_worthOf_82 : decode cX5_worthOf 82 = .ok (.iastore, 1) := by decide +kernel
theorem dX5_worthOf_83 : decode cX5_worthOf 83 = .ok (.iinc 4 1, 3) := by decide +kernel
theorem dX5_worthOf_86 : decode cX5_worthOf 86 = .ok (.goto 77, 3) := by decide +kernel
theorem dX5_worthOf_89 : decode cX5_worthOf 89 = .ok (.iload 6, 2) := by decide +kernel
theorem dX5_worthOf_91 : decode cX5_worthOf 91 = .ok (.bipush 14, 2) := by decide +kernel
theorem dX5_worthOf_93 : decode cX5_worthOf 93 = .ok (.if_icmp .ne 31, 3) := by decide +kernel
theorem dX5_worthOf_96 : decode cX5_worthOf 96 = .ok (.iload 4, 2) := by decide +kernel
theorem dX5_worthOf_98 : decode cX5_worthOf 98 = .ok (.ifCond .le 26, 3) := by decide +kernel
theorem dX5_worthOf_101 : decode cX5_worthOf 101 = .ok (.aload_n 0, 1) := by decide +kernel
theorem dX5_worthOf_102 : decode cX5_worthOf 102 = .ok (.getfield 15, 3) := by decide +kernel
theorem dX5_worthOf_105 : decode cX5_worthOf 105 = .ok (.iload 4, 2) := by decide +kernel
theorem dX5_worthOf_107 : decode cX5_worthOf 107 = .ok (.iconst 1, 1) := by decide +kernel
theorem dX5_worthOf_108 : decode cX5_worthOf 108 = .ok (.isub, 1) := by decide +kernel
theorem dX5_worthOf_109 : decode cX5_worthOf 109 = .ok (.iconst 1, 1) := by decide +kernel
theorem dX5_worthOf_110 : decode cX5_worthOf 110 = .ok (.aload_n 0, 1) := by decide +kernel
theorem dX5_worthOf_111 : decode cX5_worthOf 111 = .ok (.getfield 15, 3) := by decide +kernel
theorem dX5_worthOf_114 : decode cX5_worthOf 114 = .ok (.iload 4, 2) := by decide +kernel
theorem dX5_worthOf_116 : decode cX5_worthOf 116 = .ok (.iconst 1, 1) := by decide +kernel
theorem dX5_worthOf_117 : decode cX5_worthOf 117 = .ok (.isub, 1) := by decide +kernel
theorem dX5_worthOf_118 : decode cX5_worthOf 118 = .ok (.iaload, 1) := by decide +kernel
theorem dX5_worthOf_119 : decode cX5_worthOf 119 = .ok (.isub, 1) := by decide +kernel
theorem dX5_worthOf_120 : decode cX5_worthOf 120 = .ok (.iastore, 1) := by decide +kernel
theorem dX5_worthOf_121 : decode cX5_worthOf 121 = .ok (.goto 42, 3) := by decide +kernel
theorem dX5_worthOf_124 : decode cX5_worthOf 124 = .ok (.iload 4, 2) := by decide +kernel
theorem dX5_worthOf_126 : decode cX5_worthOf 126 = .ok (.iconst 1, 1) := by decide +kernel
theorem dX5_worthOf_127 : decode cX5_worthOf 127 = .ok (.if_icmp .le 36, 3) := by decide +kernel
theorem dX5_worthOf_130 : decode cX5_worthOf 130 = .ok (.iinc 4 (-1), 3) := by decide +kernel
theorem dX5_worthOf_133 : decode cX5_worthOf 133 = .ok (.aload_n 0, 1) := by decide +kernel
theorem dX5_worthOf_134 : decode cX5_worthOf 134 = .ok (.getfield 15, 3) := by decide +kernel
theorem dX5_worthOf_137 : decode cX5_worthOf 137 = .ok (.iload 4, 2) := by decide +kernel
theorem dX5_worthOf_139 : decode cX5_worthOf 139 = .ok (.iconst 1, 1) := by decide +kernel
theorem dX5_worthOf_140 : decode cX5_worthOf 140 = .ok (.isub, 1) := by decide +kernel
theorem dX5_worthOf_141 : decode cX5_worthOf 141 = .ok (.iload 6, 2) := by decide +kernel
theorem dX5_worthOf_143 : decode cX5_worthOf 143 = .ok (.aload_n 0, 1) := by decide +kernel
theorem dX5_worthOf_144 : decode cX5_worthOf 144 = .ok (.getfield 15, 3) := by decide +kernel
theorem dX5_worthOf_147 : decode cX5_worthOf 147 = .ok (.iload 4, 2) := by decide +kernel
theorem dX5_worthOf_149 : decode cX5_worthOf 149 = .ok (.iconst 1, 1) := by decide +kernel
theorem dX5_worthOf_150 : decode cX5_worthOf 150 = .ok (.isub, 1) := by decide +kernel
theorem dX5_worthOf_151 : decode cX5_worthOf 151 = .ok (.iaload, 1) := by decide +kernel
theorem dX5_worthOf_152 : decode cX5_worthOf 152 = .ok (.aload_n 0, 1) := by decide +kernel
theorem dX5_worthOf_153 : decode cX5_worthOf 153 = .ok (.getfield 15, 3) := by decide +kernel
theorem dX5_worthOf_156 : decode cX5_worthOf 156 = .ok (.iload 4, 2) := by decide +kernel
theorem dX5_worthOf_158 : decode cX5_worthOf 158 = .ok (.iaload, 1) := by decide +kernel
theorem dX5_worthOf_159 : decode cX5_worthOf 159 = .ok (.invokestatic 84, 3) := by decide +kernel
theorem dX5_worthOf_162 : decode cX5_worthOf 162 = .ok (.iastore, 1) := by decide +kernel
theorem dX5_worthOf_163 : decode cX5_worthOf 163 = .ok (.iinc 5 1, 3) := by decide +kernel
theorem dX5_worthOf_166 : decode cX5_worthOf 166 = .ok (.goto (-160), 3) := by decide +kernel
theorem dX5_worthOf_169 : decode cX5_worthOf 169 = .ok (.aload_n 0, 1) := by decide +kernel
theorem dX5_worthOf_170 : decode cX5_worthOf 170 = .ok (.getfield 15, 3) := by decide +kernel
theorem dX5_worthOf_173 : decode cX5_worthOf 173 = .ok (.iconst 0, 1) := by decide +kernel
theorem dX5_worthOf_174 : decode cX5_worthOf 174 = .ok (.iaload, 1) := by decide +kernel
theorem dX5_worthOf_175 : decode cX5_worthOf 175 = .ok (.ireturn, 1) := by decide +kernel
theorem dX5_joined_0 : decode cX5_joined 0 = .ok (.iload_n 0, 1) := by decide +kernel
theorem dX5_joined_1 : decode cX5_joined 1 = .ok (.tableswitch 192 13 41 #[188, 192, 192, 192, 192, 192, 192, 192, 192, 192, 192, 192, 192, 192, 192, 192, 192, 192, 192, 192, 131, 135, 139, 143, 192, 192, 155, 166, 177], 131) := by decide +kernel
theorem dX5_joined_132 : decode cX5_joined 132 = .ok (.iload_n 1, 1) := by decide +kernel
theorem dX5_joined_133 : decode cX5_joined 133 = .ok (.iload_n 2, 1) := by decide +kernel
theorem dX5_joined_134 : decode cX5_joined 134 = .ok (.iadd, 1) := by decide +kernel
theorem dX5_joined_135 : decode cX5_joined 135 = .ok (.ireturn, 1) := by decide +kernel
theorem dX5_joined_136 : decode cX5_joined 136 = .ok (.iload_n 1, 1) := by decide +kernel
theorem dX5_joined_137 : decode cX5_joined 137 = .ok (.iload_n 2, 1) := by decide +kernel
theorem dX5_joined_138 : decode cX5_joined 138 = .ok (.isub, 1) := by decide +kernel
theorem dX5_joined_139 : decode cX5_joined 139 = .ok (.ireturn, 1) := by decide +kernel
theorem dX5_joined_140 : decode cX5_joined 140 = .ok (.iload_n 1, 1) := by decide +kernel
theorem dX5_joined_141 : decode cX5_joined 141 = .ok (.iload_n 2, 1) := by decide +kernel
theorem dX5_joined_142 : decode cX5_joined 142 = .ok (.imul, 1) := by decide +kernel
theorem dX5_joined_143 : decode cX5_joined 143 = .ok (.ireturn, 1) := by decide +kernel
theorem dX5_joined_144 : decode cX5_joined 144 = .ok (.iload_n 2, 1) := by decide +kernel
theorem dX5_joined_145 : decode cX5_joined 145 = .ok (.ifCond .ne 7, 3) := by decide +kernel
theorem dX5_joined_148 : decode cX5_joined 148 = .ok (.iconst 0, 1) := by decide +kernel
theorem dX5_joined_149 : decode cX5_joined 149 = .ok (.goto 6, 3) := by decide +kernel
theorem dX5_joined_152 : decode cX5_joined 152 = .ok (.iload_n 1, 1) := by decide +kernel
theorem dX5_joined_153 : decode cX5_joined 153 = .ok (.iload_n 2, 1) := by decide +kernel
theorem dX5_joined_154 : decode cX5_joined 154 = .ok (.idiv, 1) := by decide +kernel
theorem dX5_joined_155 : decode cX5_joined 155 = .ok (.ireturn, 1) := by decide +kernel
theorem dX5_joined_156 : decode cX5_joined 156 = .ok (.iload_n 1, 1) := by decide +kernel
theorem dX5_joined_157 : decode cX5_joined 157 = .ok (.iload_n 2, 1) := by decide +kernel
theorem dX5_joined_158 : decode cX5_joined 158 = .ok (.if_icmp .ge 7, 3) := by decide +kernel
theorem dX5_joined_161 : decode cX5_joined 161 = .ok (.iconst 1, 1) := by decide +kernel
theorem dX5_joined_162 : decode cX5_joined 162 = .ok (.goto 4, 3) := by decide +kernel
theorem dX5_joined_165 : decode cX5_joined 165 = .ok (.iconst 0, 1) := by decide +kernel
theorem dX5_joined_166 : decode cX5_joined 166 = .ok (.ireturn, 1) := by decide +kernel
theorem dX5_joined_167 : decode cX5_joined 167 = .ok (.iload_n 1, 1) := by decide +kernel
theorem dX5_joined_168 : decode cX5_joined 168 = .ok (.iload_n 2, 1) := by decide +kernel
theorem dX5_joined_169 : decode cX5_joined 169 = .ok (.if_icmp .ne 7, 3) := by decide +kernel
theorem dX5_joined_172 : decode cX5_joined 172 = .ok (.iconst 1, 1) := by decide +kernel
theorem dX5_joined_173 : decode cX5_joined 173 = .ok (.goto 4, 3) := by decide +kernel
theorem dX5_joined_176 : decode cX5_joined 176 = .ok (.iconst 0, 1) := by decide +kernel
theorem dX5_joined_177 : decode cX5_joined 177 = .ok (.ireturn, 1) := by decide +kernel
theorem dX5_joined_178 : decode cX5_joined 178 = .ok (.iload_n 1, 1) := by decide +kernel
theorem dX5_joined_179 : decode cX5_joined 179 = .ok (.iload_n 2, 1) := by decide +kernel
theorem dX5_joined_180 : decode cX5_joined 180 = .ok (.if_icmp .le 7, 3) := by decide +kernel
theorem dX5_joined_183 : decode cX5_joined 183 = .ok (.iconst 1, 1) := by decide +kernel
theorem dX5_joined_184 : decode cX5_joined 184 = .ok (.goto 4, 3) := by decide +kernel
theorem dX5_joined_187 : decode cX5_joined 187 = .ok (.iconst 0, 1) := by decide +kernel
theorem dX5_joined_188 : decode cX5_joined 188 = .ok (.ireturn, 1) := by decide +kernel
theorem dX5_joined_189 : decode cX5_joined 189 = .ok (.iload_n 1, 1) := by decide +kernel
theorem dX5_joined_190 : decode cX5_joined 190 = .ok (.iload_n 2, 1) := by decide +kernel
theorem dX5_joined_191 : decode cX5_joined 191 = .ok (.iand, 1) := by decide +kernel
theorem dX5_joined_192 : decode cX5_joined 192 = .ok (.ireturn, 1) := by decide +kernel
theorem dX5_joined_193 : decode cX5_joined 193 = .ok (.iload_n 1, 1) := by decide +kernel
theorem dX5_joined_194 : decode cX5_joined 194 = .ok (.iload_n 2, 1) := by decide +kernel
theorem dX5_joined_195 : decode cX5_joined 195 = .ok (.ior, 1) := by decide +kernel
theorem dX5_joined_196 : decode cX5_joined 196 = .ok (.ireturn, 1) := by decide +kernel
theorem dX6_init_0 : decode cX6_init 0 = .ok (.aload_n 0, 1) := by decide +kernel
theorem dX6_init_1 : decode cX6_init 1 = .ok (.invokespecial 3, 3) := by decide +kernel
theorem dX6_init_4 : decode cX6_init 4 = .ok (.aload_n 0, 1) := by decide +kernel
theorem dX6_init_5 : decode cX6_init 5 = .ok (.bipush 8, 2) := by decide +kernel
theorem dX6_init_7 : decode cX6_init 7 = .ok (.newarray .int, 2) := by decide +kernel
theorem dX6_init_9 : decode cX6_init 9 = .ok (.putfield 9, 3) := by decide +kernel
theorem dX6_init_12 : decode cX6_init 12 = .ok (.aload_n 0, 1) := by decide +kernel
theorem dX6_init_13 : decode cX6_init 13 = .ok (.bipush 8, 2) := by decide +kernel
theorem dX6_init_15 : decode cX6_init 15 = .ok (.newarray .int, 2) := by decide +kernel
theorem dX6_init_17 : decode cX6_init 17 = .ok (.putfield 15, 3) := by decide +kernel
theorem dX6_init_20 : decode cX6_init 20 = .ok (.return_, 1) := by decide +kernel
theorem dX6_worksDone_0 : decode cX6_worksDone 0 = .ok (.iconst 0, 1) := by decide +kernel
theorem dX6_worksDone_1 : decode cX6_worksDone 1 = .ok (.istore_n 2, 1) := by decide +kernel
theorem dX6_worksDone_2 : decode cX6_worksDone 2 = .ok (.iconst 0, 1) := by decide +kernel
theorem dX6_worksDone_3 : decode cX6_worksDone 3 = .ok (.istore_n 3, 1) := by decide +kernel
theorem dX6_worksDone_4 : decode cX6_worksDone 4 = .ok (.iload_n 3, 1) := by decide +kernel
theorem dX6_worksDone_5 : decode cX6_worksDone 5 = .ok (.aload_n 1, 1) := by decide +kernel
theorem dX6_worksDone_6 : decode cX6_worksDone 6 = .ok (.getfield 18, 3) := by decide +kernel
theorem dX6_worksDone_9 : decode cX6_worksDone 9 = .ok (.getfield 24, 3) := by decide +kernel
theorem dX6_worksDone_12 : decode cX6_worksDone 12 = .ok (.if_icmp .ge 75, 3) := by decide +kernel
theorem dX6_worksDone_15 : decode cX6_worksDone 15 = .ok (.aload_n 1, 1) := by decide +kernel
theorem dX6_worksDone_16 : decode cX6_worksDone 16 = .ok (.getfield 30, 3) := by decide +kernel
theorem dX6_worksDone_19 : decode cX6_worksDone 19 = .ok (.aload_n 1, 1) := by decide +kernel
theorem dX6_worksDone_20 : decode cX6_worksDone 20 = .ok (.getfield 18, 3) := by decide +kernel
theorem dX6_worksDone_23 : decode cX6_worksDone 23 = .ok (.iload_n 3, 1) := by decide +kernel
theorem dX6_worksDone_24 : decode cX6_worksDone 24 = .ok (.iconst 0, 1) := by decide +kernel
theorem dX6_worksDone_25 : decode cX6_worksDone 25 = .ok (.invokevirtual 34, 3) := by decide +kernel
theorem dX6_worksDone_28 : decode cX6_worksDone 28 = .ok (.aload_n 1, 1) := by decide +kernel
theorem dX6_worksDone_29 : decode cX6_worksDone 29 = .ok (.getfield 18, 3) := by decide +kernel
theorem dX6_worksDone_32 : decode cX6_worksDone 32 = .ok (.iload_n 3, 1) := by decide +kernel
theorem dX6_worksDone_33 : decode cX6_worksDone 33 = .ok (.iconst 2, 1) := by decide +kernel
theorem dX6_worksDone_34 : decode cX6_worksDone 34 = .ok (.invokevirtual 34, 3) := by decide +kernel
theorem dX6_worksDone_37 : decode cX6_worksDone 37 = .ok (.invokevirtual 38, 3) := by decide +kernel
theorem dX6_worksDone_40 : decode cX6_worksDone 40 = .ok (.istore 4, 2) := by decide +kernel
theorem dX6_worksDone_42 : decode cX6_worksDone 42 = .ok (.iload 4, 2) := by decide +kernel
theorem dX6_worksDone_44 : decode cX6_worksDone 44 = .ok (.bipush 90, 2) := by decide +kernel
theorem dX6_worksDone_46 : decode cX6_worksDone 46 = .ok (.if_icmp .lt 7, 3) := by decide +kernel
theorem dX6_worksDone_49 : decode cX6_worksDone 49 = .ok (.iconst 1, 1) := by decide +kernel
theorem dX6_worksDone_50 : decode cX6_worksDone 50 = .ok (.goto 4, 3) := by decide +kernel
theorem dX6_worksDone_53 : decode cX6_worksDone 53 = .ok (.iconst 0, 1) := by decide +kernel
theorem dX6_worksDone_54 : decode cX6_worksDone 54 = .ok (.aload_n 1, 1) := by decide +kernel
theorem dX6_worksDone_55 : decode cX6_worksDone 55 = .ok (.getfield 18, 3) := by decide +kernel
theorem dX6_worksDone_58 : decode cX6_worksDone 58 = .ok (.iload_n 3, 1) := by decide +kernel
theorem dX6_worksDone_59 : decode cX6_worksDone 59 = .ok (.iconst 1, 1) := by decide +kernel
theorem dX6_worksDone_60 : decode cX6_worksDone 60 = .ok (.invokevirtual 34, 3) := by decide +kernel
theorem dX6_worksDone_63 : decode cX6_worksDone 63 = .ok (.iconst 1, 1) := by decide +kernel
theorem dX6_worksDone_64 : decode cX6_worksDone 64 = .ok (.if_icmp .ne 7, 3) := by decide +kernel
theorem dX6_worksDone_67 : decode cX6_worksDone 67 = .ok (.iconst 1, 1) := by decide +kernel
theorem dX6_worksDone_68 : decode cX6_worksDone 68 = .ok (.goto 4, 3) := by decide +kernel
theorem dX6_worksDone_71 : decode cX6_worksDone 71 = .ok (.iconst 0, 1) := by decide +kernel
theorem dX6_worksDone_72 : decode cX6_worksDone 72 = .ok (.if_icmp .ne 9, 3) := by decide +kernel
theorem dX6_worksDone_75 : decode cX6_worksDone 75 = .ok (.iload_n 2, 1) := by decide +kernel
theorem dX6_worksDone_76 : decode cX6_worksDone 76 = .ok (.iconst 1, 1) := by decide +kernel
theorem dX6_worksDone_77 : decode cX6_worksDone 77 = .ok (.iload_n 3, 1) := by decide +kernel
theorem dX6_worksDone_78 : decode cX6_worksDone 78 = .ok (.ishl, 1) := by decide +kernel
theorem dX6_worksDone_79 : decode cX6_worksDone 79 = .ok (.ior, 1) := by decide +kernel
theorem dX6_worksDone_80 : decode cX6_worksDone 80 = .ok (.istore_n 2, 1) := by decide +kernel
theorem dX6_worksDone_81 : decode cX6_worksDone 81 = .ok (.iinc 3 1, 3) := by decide +kernel
theorem dX6_worksDone_84 : decode cX6_worksDone 84 = .ok (.goto (-80), 3) := by decide +kernel
theorem dX6_worksDone_87 : decode cX6_worksDone 87 = .ok (.iload_n 2, 1) := by decide +kernel
theorem dX6_worksDone_88 : decode cX6_worksDone 88 = .ok (.ireturn, 1) := by decide +kernel
theorem dX6_toStrike_0 : decode cX6_toStrike 0 = .ok (.aload_n 0, 1) := by decide +kernel
theorem dX6_toStrike_1 : decode cX6_toStrike 1 = .ok (.aload_n 1, 1) := by decide +kernel
theorem dX6_toStrike_2 : decode cX6_toStrike 2 = .ok (.getfield 43, 3) := by decide +kernel
theorem dX6_toStrike_5 : decode cX6_toStrike 5 = .ok (.invokevirtual 46, 3) := by decide +kernel
theorem dX6_toStrike_8 : decode cX6_toStrike 8 = .ok (.aload_n 1, 1) := by decide +kernel
theorem dX6_toStrike_9 : decode cX6_toStrike 9 = .ok (.getfield 30, 3) := by decide +kernel
theorem dX6_toStrike_12 : decode cX6_toStrike 12 = .ok (.iload_n 2, 1) := by decide +kernel
theorem dX6_toStrike_13 : decode cX6_toStrike 13 = .ok (.invokevirtual 50, 3) := by decide +kernel
theorem dX6_toStrike_16 : decode cX6_toStrike 16 = .ok (.istore_n 3, 1) := by decide +kernel
theorem dX6_toStrike_17 : decode cX6_toStrike 17 = .ok (.iload_n 3, 1) := by decide +kernel
theorem dX6_toStrike_18 : decode cX6_toStrike 18 = .ok (.istore 4, 2) := by decide +kernel
theorem dX6_toStrike_20 : decode cX6_toStrike 20 = .ok (.aload_n 1, 1) := by decide +kernel
theorem dX6_toStrike_21 : decode cX6_toStrike 21 = .ok (.getfield 30, 3) := by decide +kernel
theorem dX6_toStrike_24 : decode cX6_toStrike 24 = .ok (.iload_n 2, 1) := by decide +kernel
theorem dX6_toStrike_25 : decode cX6_toStrike 25 = .ok (.iload_n 3, 1) := by decide +kernel
theorem dX6_toStrike_26 : decode cX6_toStrike 26 = .ok (.invokevirtual 54, 3) := by decide +kernel
theorem dX6_toStrike_29 : decode cX6_toStrike 29 = .ok (.istore 5, 2) := by decide +kernel
theorem dX6_toStrike_31 : decode cX6_toStrike 31 = .ok (.iconst 0, 1) := by decide +kernel
theorem dX6_toStrike_32 : decode cX6_toStrike 32 = .ok (.istore 6, 2) := by decide +kernel
theorem dX6_toStrike_34 : decode cX6_toStrike 34 = .ok (.iload 6, 2) := by decide +kernel
theorem dX6_toStrike_36 : decode cX6_toStrike 36 = .ok (.sipush 256, 3) := by decide +kernel
theorem dX6_toStrike_39 : decode cX6_toStrike 39 = .ok (.if_icmp .ge 58, 3) := by decide +kernel
theorem dX6_toStrike_42 : decode cX6_toStrike 42 = .ok (.iload 6, 2) := by decide +kernel
theorem dX6_toStrike_44 : decode cX6_toStrike 44 = .ok (.iload_n 3, 1) := by decide +kernel
theorem dX6_toStrike_45 : decode cX6_toStrike 45 = .ok (.iconst (-1), 1) := by decide +kernel
theorem dX6_toStrike_46 : decode cX6_toStrike 46 = .ok (.ixor, 1) := by decide +kernel
theorem dX6_toStrike_47 : decode cX6_toStrike 47 = .ok (.iand, 1) := by decide +kernel
theorem dX6_toStrike_48 : decode cX6_toStrike 48 = .ok (.ifCond .ne 43, 3) := by decide +kernel
theorem dX6_toStrike_51 : decode cX6_toStrike 51 = .ok (.aload_n 0, 1) := by decide +kernel
theorem dX6_toStrike_52 : decode cX6_toStrike 52 = .ok (.iload_n 3, 1) := by decide +kernel
theorem dX6_toStrike_53 : decode cX6_toStrike 53 = .ok (.iload 6, 2) := by decide +kernel
theorem dX6_toStrike_55 : decode cX6_toStrike 55 = .ok (.iconst (-1), 1) := by decide +kernel
theorem dX6_toStrike_56 : decode cX6_toStrike 56 = .ok (.ixor, 1) := by decide +kernel
theorem dX6_toStrike_57 : decode cX6_toStrike 57 = .ok (.iand, 1) := by decide +kernel
theorem dX6_toStrike_58 : decode cX6_toStrike 58 = .ok (.invokevirtual 57, 3) := by decide +kernel
theorem dX6_toStrike_61 : decode cX6_toStrike 61 = .ok (.ifCond .eq 30, 3) := by decide +kernel
theorem dX6_toStrike_64 : decode cX6_toStrike 64 = .ok (.aload_n 1, 1) := by decide +kernel
theorem dX6_toStrike_65 : decode cX6_toStrike 65 = .ok (.getfield 30, 3) := by decide +kernel
theorem dX6_toStrike_68 : decode cX6_toStrike 68 = .ok (.iload_n 2, 1) := by decide +kernel
theorem dX6_toStrike_69 : decode cX6_toStrike 69 = .ok (.iload 6, 2) := by decide +kernel
theorem dX6_toStrike_71 : decode cX6_toStrike 71 = .ok (.invokevirtual 54, 3) := by decide +kernel
theorem dX6_toStrike_74 : decode cX6_toStrike 74 = .ok (.istore 7, 2) := by decide +kernel
theorem dX6_toStrike_76 : decode cX6_toStrike 76 = .ok (.iload 7, 2) := by decide +kernel
theorem dX6_toStrike_78 : decode cX6_toStrike 78 = .ok (.iload 5, 2) := by decide +kernel
theorem dX6_toStrike_80 : decode cX6_toStrike 80 = .ok (.if_icmp .ge 11, 3) := by decide +kernel
theorem dX6_toStrike_83 : decode cX6_toStrike 83 = .ok (.iload 7, 2) := by decide +kernel
theorem dX6_toStrike_85 : decode cX6_toStrike 85 = .ok (.istore 5, 2) := by decide +kernel
theorem dX6_toStrike_87 : decode cX6_toStrike 87 = .ok (.iload 6, 2) := by decide +kernel
theorem dX6_toStrike_89 : decode cX6_toStrike 89 = .ok (.istore 4, 2) := by decide +kernel
theorem dX6_toStrike_91 : decode cX6_toStrike 91 = .ok (.iinc 6 1, 3) := by decide +kernel
theorem dX6_toStrike_94 : decode cX6_toStrike 94 = .ok (.goto (-60), 3) := by decide +kernel
theorem dX6_toStrike_97 : decode cX6_toStrike 97 = .ok (.iload 4, 2) := by decide +kernel
theorem dX6_toStrike_99 : decode cX6_toStrike 99 = .ok (.ireturn, 1) := by decide +kernel
theorem dX6_findClashes_0 : decode cX6_findClashes 0 = .ok (.iconst 0, 1) := by decide +kernel
theorem dX6_findClashes_1 : decode cX6_findClashes 1 = .ok (.istore_n 2, 1) := by decide +kernel
theorem dX6_findClashes_2 : decode cX6_findClashes 2 = .ok (.iload_n 2, 1) := by decide +kernel
theorem dX6_findClashes_3 : decode cX6_findClashes 3 = .ok (.bipush 8, 2) := by decide +kernel
theorem dX6_findClashes_5 : decode cX6_findClashes 5 = .ok (.if_icmp .ge 16, 3) := by decide +kernel
theorem dX6_findClashes_8 : decode cX6_findClashes 8 = .ok (.aload_n 0, 1) := by decide +kernel
theorem dX6_findClashes_9 : decode cX6_findClashes 9 = .ok (.getfield 9, 3) := by decide +kernel
theorem dX6_findClashes_12 : decode cX6_findClashes 12 = .ok (.iload_n 2, 1) := by decide +kernel
theorem dX6_findClashes_13 : decode cX6_findClashes 13 = .ok (.iconst 0, 1) := by decide +kernel
theorem dX6_findClashes_14 : decode cX6_findClashes 14 = .ok (.iastore, 1) := by decide +kernel
theorem dX6_findClashes_15 : decode cX6_findClashes 15 = .ok (.iinc 2 1, 3) := by decide +kernel
theorem dX6_findClashes_18 : decode cX6_findClashes 18 = .ok (.goto (-16), 3) := by decide +kernel
theorem dX6_findClashes_21 : decode cX6_findClashes 21 = .ok (.iconst 0, 1) := by decide +kernel
theorem dX6_findClashes_22 : decode cX6_findClashes 22 = .ok (.istore_n 2, 1) := by decide +kernel
theorem dX6_findClashes_23 : decode cX6_findClashes 23 = .ok (.iload_n 2, 1) := by decide +kernel
theorem dX6_findClashes_24 : decode cX6_findClashes 24 = .ok (.aload_n 1, 1) := by decide +kernel
theorem dX6_findClashes_25 : decode cX6_findClashes 25 = .ok (.getfield 24, 3) := by decide +kernel
theorem dX6_findClashes_28 : decode cX6_findClashes 28 = .ok (.if_icmp .ge 38, 3) := by decide +kernel
theorem dX6_findClashes_31 : decode cX6_findClashes 31 = .ok (.aload_n 1, 1) := by decide +kernel
theorem dX6_findClashes_32 : decode cX6_findClashes 32 = .ok (.iload_n 2, 1) := by decide +kernel
theorem dX6_findClashes_33 : decode cX6_findClashes 33 = .ok (.iconst 2, 1) := by decide +kernel
theorem dX6_findClashes_34 : decode cX6_findClashes 34 = .ok (.invokevirtual 34, 3) := by decide +kernel
theorem dX6_findClashes_37 : decode cX6_findClashes 37 = .ok (.ifCond .ne 23, 3) := by decide +kernel
theorem dX6_findClashes_40 : decode cX6_findClashes 40 = .ok (.aload_n 0, 1) := by decide +kernel
theorem dX6_findClashes_41 : decode cX6_findClashes 41 = .ok (.getfield 9, 3) := by decide +kernel
theorem dX6_findClashes_44 : decode cX6_findClashes 44 = .ok (.aload_n 1, 1) := by decide +kernel
theorem dX6_findClashes_45 : decode cX6_findClashes 45 = .ok (.iload_n 2, 1) := by decide +kernel
theorem dX6_findClashes_46 : decode cX6_findClashes 46 = .ok (.iconst 0, 1) := by decide +kernel
theorem dX6_findClashes_47 : decode cX6_findClashes 47 = .ok (.invokevirtual 34, 3) := by decide +kernel
theorem dX6_findClashes_50 : decode cX6_findClashes 50 = .ok (.dup2, 1) := by decide +kernel
theorem dX6_findClashes_51 : decode cX6_findClashes 51 = .ok (.iaload, 1) := by decide +kernel
theorem dX6_findClashes_52 : decode cX6_findClashes 52 = .ok (.aload_n 1, 1) := by decide +kernel
theorem dX6_findClashes_53 : decode cX6_findClashes 53 = .ok (.iload_n 2, 1) := by decide +kernel
theorem dX6_findClashes_54 : decode cX6_findClashes 54 = .ok (.iconst 1, 1) := by decide +kernel
theorem dX6_findClashes_55 : decode cX6_findClashes 55 = .ok (.invokevirtual 34, 3) := by decide +kernel
theorem dX6_findClashes_58 : decode cX6_findClashes 58 = .ok (.ior, 1) := by decide +kernel
theorem dX6_findClashes_59 : decode cX6_findClashes 59 = .ok (.iastore, 1) := by decide +kernel
theorem dX6_findClashes_60 : decode cX6_findClashes 60 = .ok (.iinc 2 1, 3) := by decide +kernel
theorem dX6_findClashes_63 : decode cX6_findClashes 63 = .ok (.goto (-40), 3) := by decide +kernel
theorem dX6_findClashes_66 : decode cX6_findClashes 66 = .ok (.return_, 1) := by decide +kernel
theorem dX6_isAtPeace_0 : decode cX6_isAtPeace 0 = .ok (.iconst 0, 1) := by decide +kernel
theorem dX6_isAtPeace_1 : decode cX6_isAtPeace 1 = .ok (.istore_n 2, 1) := by decide +kernel
theorem dX6_isAtPeace_2 : decode cX6_isAtPeace 2 = .ok (.iload_n 2, 1) := by decide +kernel
theorem dX6_isAtPeace_3 : decode cX6_isAtPeace 3 = .ok (.bipush 8, 2) := by decide +kernel
theorem dX6_isAtPeace_5 : decode cX6_isAtPeace 5 = .ok (.if_icmp .ge 30, 3) := by decide +kernel
theorem dX6_isAtPeace_8 : decode cX6_isAtPeace 8 = .ok (.iload_n 1, 1) := by decide +kernel
theorem dX6_isAtPeace_9 : decode cX6_isAtPeace 9 = .ok (.iload_n 2, 1) := by decide +kernel
theorem dX6_isAtPeace_10 : decode cX6_isAtPeace 10 = .ok (.ishr, 1) := by decide +kernel
theorem dX6_isAtPeace_11 : decode cX6_isAtPeace 11 = .ok (.iconst 1, 1) := by decide +kernel
theorem dX6_isAtPeace_12 : decode cX6_isAtPeace 12 = .ok (.iand, 1) := by decide +kernel
theorem dX6_isAtPeace_13 : decode cX6_isAtPeace 13 = .ok (.ifCond .eq 16, 3) := by decide +kernel
theorem dX6_isAtPeace_16 : decode cX6_isAtPeace 16 = .ok (.aload_n 0, 1) := by decide +kernel
theorem dX6_isAtPeace_17 : decode cX6_isAtPeace 17 = .ok (.getfield 9, 3) := by decide +kernel
theorem dX6_isAtPeace_20 : decode cX6_isAtPeace 20 = .ok (.iload_n 2, 1) := by decide +kernel
theorem dX6_isAtPeace_21 : decode cX6_isAtPeace 21 = .ok (.iaload, 1) := by decide +kernel
theorem dX6_isAtPeace_22 : decode cX6_isAtPeace 22 = .ok (.iload_n 1, 1) := by decide +kernel
theorem dX6_isAtPeace_23 : decode cX6_isAtPeace 23 = .ok (.iand, 1) := by decide +kernel
theorem dX6_isAtPeace_24 : decode cX6_isAtPeace 24 = .ok (.ifCond .eq 5, 3) := by decide +kernel
theorem dX6_isAtPeace_27 : decode cX6_isAtPeace 27 = .ok (.iconst 0, 1) := by decide +kernel
theorem dX6_isAtPeace_28 : decode cX6_isAtPeace 28 = .ok (.ireturn, 1) := by decide +kernel
theorem dX6_isAtPeace_29 : decode cX6_isAtPeace 29 = .ok (.iinc 2 1, 3) := by decide +kernel
theorem dX6_isAtPeace_32 : decode cX6_isAtPeace 32 = .ok (.goto (-30), 3) := by decide +kernel
theorem dX6_isAtPeace_35 : decode cX6_isAtPeace 35 = .ok (.iconst 1, 1) := by decide +kernel
theorem dX6_isAtPeace_36 : decode cX6_isAtPeace 36 = .ok (.ireturn, 1) := by decide +kernel
theorem dX6_falls_0 : decode cX6_falls 0 = .ok (.aload_n 1, 1) := by decide +kernel
theorem dX6_falls_1 : decode cX6_falls 1 = .ok (.getfield 30, 3) := by decide +kernel
theorem dX6_falls_4 : decode cX6_falls 4 = .ok (.iload_n 2, 1) := by decide +kernel
theorem dX6_falls_5 : decode cX6_falls 5 = .ok (.invokevirtual 50, 3) := by decide +kernel
theorem dX6_falls_8 : decode cX6_falls 8 = .ok (.iconst 1, 1) := by decide +kernel
theorem dX6_falls_9 : decode cX6_falls 9 = .ok (.iload_n 3, 1) := by decide +kernel
theorem dX6_falls_10 : decode cX6_falls 10 = .ok (.ishl, 1) := by decide +kernel
theorem dX6_falls_11 : decode cX6_falls 11 = .ok (.iconst (-1), 1) := by decide +kernel
theorem dX6_falls_12 : decode cX6_falls 12 = .ok (.ixor, 1) := by decide +kernel
theorem dX6_falls_13 : decode cX6_falls 13 = .ok (.iand, 1) := by decide +kernel
theorem dX6_falls_14 : decode cX6_falls 14 = .ok (.istore 4, 2) := by decide +kernel
theorem dX6_falls_16 : decode cX6_falls 16 = .ok (.iconst 0, 1) := by decide +kernel
theorem dX6_falls_17 : decode cX6_falls 17 = .ok (.istore 5, 2) := by decide +kernel
theorem dX6_falls_19 : decode cX6_falls 19 = .ok (.iconst 0, 1) := by decide +kernel
theorem dX6_falls_20 : decode cX6_falls 20 = .ok (.istore 6, 2) := by decide +kernel
theorem dX6_falls_22 : decode cX6_falls 22 = .ok (.iload 6, 2) := by decide +kernel
theorem dX6_falls_24 : decode cX6_falls 24 = .ok (.aload_n 1, 1) := by decide +kernel
theorem dX6_falls_25 : decode cX6_falls 25 = .ok (.getfield 43, 3) := by decide +kernel
theorem dX6_falls_28 : decode cX6_falls 28 = .ok (.getfield 24, 3) := by decide +kernel
theorem dX6_falls_31 : decode cX6_falls 31 = .ok (.if_icmp .ge 39, 3) := by decide +kernel
theorem dX6_falls_34 : decode cX6_falls 34 = .ok (.aload_n 1, 1) := by decide +kernel
theorem dX6_falls_35 : decode cX6_falls 35 = .ok (.getfield 43, 3) := by decide +kernel
theorem dX6_falls_38 : decode cX6_falls 38 = .ok (.iload 6, 2) := by decide +kernel
theorem dX6_falls_40 : decode cX6_falls 40 = .ok (.iconst 2, 1) := by decide +kernel
theorem dX6_falls_41 : decode cX6_falls 41 = .ok (.invokevirtual 34, 3) := by decide +kernel
theorem dX6_falls_44 : decode cX6_falls 44 = .ok (.ifCond .le 20, 3) := by decide +kernel
theorem dX6_falls_47 : decode cX6_falls 47 = .ok (.iload 5, 2) := by decide +kernel
theorem dX6_falls_49 : decode cX6_falls 49 = .ok (.iconst 1, 1) := by decide +kernel
theorem dX6_falls_50 : decode cX6_falls 50 = .ok (.aload_n 1, 1) := by decide +kernel
theorem dX6_falls_51 : decode cX6_falls 51 = .ok (.getfield 43, 3) := by decide +kernel
theorem dX6_falls_54 : decode cX6_falls 54 = .ok (.iload 6, 2) := by decide +kernel
theorem dX6_falls_56 : decode cX6_falls 56 = .ok (.iconst 0, 1) := by decide +kernel
theorem dX6_falls_57 : decode cX6_falls 57 = .ok (.invokevirtual 34, 3) := by decide +kernel
theorem dX6_falls_60 : decode cX6_falls 60 = .ok (.ishl, 1) := by decide +kernel
theorem dX6_falls_61 : decode cX6_falls 61 = .ok (.ior, 1) := by decide +kernel
theorem dX6_falls_62 : decode cX6_falls 62 = .ok (.istore 5, 2) := by decide +kernel
theorem dX6_falls_64 : decode cX6_falls 64 = .ok (.iinc 6 1, 3) := by decide +kernel
theorem dX6_falls_67 : decode cX6_falls 67 = .ok (.goto (-45), 3) := by decide +kernel
theorem dX6_falls_70 : decode cX6_falls 70 = .ok (.iload 4, 2) := by decide +kernel
theorem dX6_falls_72 : decode cX6_falls 72 = .ok (.iload 5, 2) := by decide +kernel
theorem dX6_falls_74 : decode cX6_falls 74 = .ok (.iconst (-1), 1) := by decide +kernel
theorem dX6_falls_75 : decode cX6_falls 75 = .ok (.ixor, 1) := by decide +kernel
theorem dX6_falls_76 : decode cX6_falls 76 = .ok (.iand, 1) := by decide +kernel
theorem dX6_falls_77 : decode cX6_falls 77 = .ok (.istore 6, 2) := by decide +kernel
theorem dX6_falls_79 : decode cX6_falls 79 = .ok (.iconst 0, 1) := by decide +kernel
theorem dX6_falls_80 : decode cX6_falls 80 = .ok (.istore 7, 2) := by decide +kernel
theorem dX6_falls_82 : decode cX6_falls 82 = .ok (.iload 7, 2) := by decide +kernel
theorem dX6_falls_84 : decode cX6_falls 84 = .ok (.bipush 8, 2) := by decide +kernel
theorem dX6_falls_86 : decode cX6_falls 86 = .ok (.if_icmp .ge 27, 3) := by decide +kernel
theorem dX6_falls_89 : decode cX6_falls 89 = .ok (.iload 6, 2) := by decide +kernel
theorem dX6_falls_91 : decode cX6_falls 91 = .ok (.iload 4, 2) := by decide +kernel
theorem dX6_falls_93 : decode cX6_falls 93 = .ok (.aload_n 0, 1) := by decide +kernel
theorem dX6_falls_94 : decode cX6_falls 94 = .ok (.aload_n 1, 1) := by decide +kernel
theorem dX6_falls_95 : decode cX6_falls 95 = .ok (.getfield 43, 3) := by decide +kernel
theorem dX6_falls_98 : decode cX6_falls 98 = .ok (.iload 6, 2) := by decide +kernel
theorem dX6_falls_100 : decode cX6_falls 100 = .ok (.invokevirtual 61, 3) := by decide +kernel
theorem dX6_falls_103 : decode cX6_falls 103 = .ok (.iand, 1) := by decide +kernel
theorem dX6_falls_104 : decode cX6_falls 104 = .ok (.ior, 1) := by decide +kernel
theorem dX6_falls_105 : decode cX6_falls 105 = .ok (.istore 6, 2) := by decide +kernel
theorem dX6_falls_107 : decode cX6_falls 107 = .ok (.iinc 7 1, 3) := by decide +kernel
theorem dX6_falls_110 : decode cX6_falls 110 = .ok (.goto (-28), 3) := by decide +kernel
theorem dX6_falls_113 : decode cX6_falls 113 = .ok (.iload 4, 2) := by decide +kernel
theorem dX6_falls_115 : decode cX6_falls 115 = .ok (.iload 6, 2) := by decide +kernel
theorem dX6_falls_117 : decode cX6_falls 117 = .ok (.iconst (-1), 1) := by decide +kernel
theorem dX6_falls_118 : decode cX6_falls 118 = .ok (.ixor, 1) := by decide +kernel
theorem dX6_falls_119 : decode cX6_falls 119 = .ok (.iand, 1) := by decide +kernel
theorem dX6_falls_120 : decode cX6_falls 120 = .ok (.ireturn, 1) := by decide +kernel
theorem dX6_follows_0 : decode cX6_follows 0 = .ok (.iconst 0, 1) := by decide +kernel
theorem dX6_follows_1 : decode cX6_follows 1 = .ok (.istore_n 3, 1) := by decide +kernel
theorem dX6_follows_2 : decode cX6_follows 2 = .ok (.iconst 0, 1) := by decide +kernel
theorem dX6_follows_3 : decode cX6_follows 3 = .ok (.istore 4, 2) := by decide +kernel
theorem dX6_follows_5 : decode cX6_follows 5 = .ok (.iload 4, 2) := by decide +kernel
theorem dX6_follows_7 : decode cX6_follows 7 = .ok (.aload_n 1, 1) := by decide +kernel
theorem dX6_follows_8 : decode cX6_follows 8 = .ok (.getfield 24, 3) := by decide +kernel
theorem dX6_follows_11 : decode cX6_follows 11 = .ok (.if_icmp .ge 45, 3) := by decide +kernel
theorem dX6_follows_14 : decode cX6_follows 14 = .ok (.aload_n 1, 1) := by decide +kernel
theorem dX6_follows_15 : decode cX6_follows 15 = .ok (.iload 4, 2) := by decide +kernel
theorem dX6_follows_17 : decode cX6_follows 17 = .ok (.iconst 2, 1) := by decide +kernel
theorem dX6_follows_18 : decode cX6_follows 18 = .ok (.invokevirtual 34, 3) := by decide +kernel
theorem dX6_follows_21 : decode cX6_follows 21 = .ok (.ifCond .le 29, 3) := by decide +kernel
theorem dX6_follows_24 : decode cX6_follows 24 = .ok (.aload_n 1, 1) := by decide +kernel
theorem dX6_follows_25 : decode cX6_follows 25 = .ok (.iload 4, 2) := by decide +kernel
theorem dX6_follows_27 : decode cX6_follows 27 = .ok (.iconst 1, 1) := by decide +kernel
theorem dX6_follows_28 : decode cX6_follows 28 = .ok (.invokevirtual 34, 3) := by decide +kernel
theorem dX6_follows_31 : decode cX6_follows 31 = .ok (.iload_n 2, 1) := by decide +kernel
theorem dX6_follows_32 : decode cX6_follows 32 = .ok (.iconst (-1), 1) := by decide +kernel
theorem dX6_follows_33 : decode cX6_follows 33 = .ok (.ixor, 1) := by decide +kernel
theorem dX6_follows_34 : decode cX6_follows 34 = .ok (.iand, 1) := by decide +kernel
theorem dX6_follows_35 : decode cX6_follows 35 = .ok (.ifCond .ne 15, 3) := by decide +kernel
theorem dX6_follows_38 : decode cX6_follows 38 = .ok (.iload_n 3, 1) := by decide +kernel
theorem dX6_follows_39 : decode cX6_follows 39 = .ok (.iconst 1, 1) := by decide +kernel
theorem dX6_follows_40 : decode cX6_follows 40 = .ok (.aload_n 1, 1) := by decide +kernel
theorem dX6_follows_41 : decode cX6_follows 41 = .ok (.iload 4, 2) := by decide +kernel
theorem dX6_follows_43 : decode cX6_follows 43 = .ok (.iconst 0, 1) := by decide +kernel
theorem dX6_follows_44 : decode cX6_follows 44 = .ok (.invokevirtual 34, 3) := by decide +kernel
theorem dX6_follows_47 : decode cX6_follows 47 = .ok (.ishl, 1) := by decide +kernel
theorem dX6_follows_48 : decode cX6_follows 48 = .ok (.ior, 1) := by decide +kernel
theorem dX6_follows_49 : decode cX6_follows 49 = .ok (.istore_n 3, 1) := by decide +kernel
theorem dX6_follows_50 : decode cX6_follows 50 = .ok (.iinc 4 1, 3) := by decide +kernel
theorem dX6_follows_53 : decode cX6_follows 53 = .ok (.goto (-48), 3) := by decide +kernel
theorem dX6_follows_56 : decode cX6_follows 56 = .ok (.iload_n 3, 1) := by decide +kernel
theorem dX6_follows_57 : decode cX6_follows 57 = .ok (.ireturn, 1) := by decide +kernel
theorem dX6_countFits_0 : decode cX6_countFits 0 = .ok (.iconst 0, 1) := by decide +kernel
theorem dX6_countFits_1 : decode cX6_countFits 1 = .ok (.istore 4, 2) := by decide +kernel
theorem dX6_countFits_3 : decode cX6_countFits 3 = .ok (.iconst 0, 1) := by decide +kernel
theorem dX6_countFits_4 : decode cX6_countFits 4 = .ok (.istore 5, 2) := by decide +kernel
theorem dX6_countFits_6 : decode cX6_countFits 6 = .ok (.iload 5, 2) := by decide +kernel
theorem dX6_countFits_8 : decode cX6_countFits 8 = .ok (.sipush 256, 3) := by decide +kernel
theorem dX6_countFits_11 : decode cX6_countFits 11 = .ok (.if_icmp .ge 24, 3) := by decide +kernel
theorem dX6_countFits_14 : decode cX6_countFits 14 = .ok (.aload_n 0, 1) := by decide +kernel
theorem dX6_countFits_15 : decode cX6_countFits 15 = .ok (.aload_n 1, 1) := by decide +kernel
theorem dX6_countFits_16 : decode cX6_countFits 16 = .ok (.iload_n 2, 1) := by decide +kernel
theorem dX6_countFits_17 : decode cX6_countFits 17 = .ok (.iload_n 3, 1) := by decide +kernel
theorem dX6_countFits_18 : decode cX6_countFits 18 = .ok (.iload 5, 2) := by decide +kernel
theorem dX6_countFits_20 : decode cX6_countFits 20 = .ok (.invokevirtual 65, 3) := by decide +kernel
theorem dX6_countFits_23 : decode cX6_countFits 23 = .ok (.ifCond .eq 6, 3) := by decide +kernel
theorem dX6_countFits_26 : decode cX6_countFits 26 = .ok (.iinc 4 1, 3) := by decide +kernel
theorem dX6_countFits_29 : decode cX6_countFits 29 = .ok (.iinc 5 1, 3) := by decide +kernel
theorem dX6_countFits_32 : decode cX6_countFits 32 = .ok (.goto (-26), 3) := by decide +kernel
theorem dX6_countFits_35 : decode cX6_countFits 35 = .ok (.iload 4, 2) := by decide +kernel
theorem dX6_countFits_37 : decode cX6_countFits 37 = .ok (.ireturn, 1) := by decide +kernel
theorem dX6_bestQuestion_0 : decode cX6_bestQuestion 0 = .ok (.iconst 0, 1) := by decide +kernel
theorem dX6_bestQuestion_1 : decode cX6_bestQuestion 1 = .ok (.istore 4, 2) := by decide +kernel
theorem dX6_bestQuestion_3 : decode cX6_bestQuestion 3 = .ok (.iconst 0, 1) := by decide +kernel
theorem dX6_bestQuestion_4 : decode cX6_bestQuestion 4 = .ok (.istore 5, 2) := by decide +kernel
theorem dX6_bestQuestion_6 : decode cX6_bestQuestion 6 = .ok (.iload 5, 2) := by decide +kernel
theorem dX6_bestQuestion_8 : decode cX6_bestQuestion 8 = .ok (.bipush 8, 2) := by decide +kernel
theorem dX6_bestQuestion_10 : decode cX6_bestQuestion 10 = .ok (.if_icmp .ge 17, 3) := by decide +kernel
theorem dX6_bestQuestion_13 : decode cX6_bestQuestion 13 = .ok (.aload_n 0, 1) := by decide +kernel
theorem dX6_bestQuestion_14 : decode cX6_bestQuestion 14 = .ok (.getfield 15, 3) := by decide +kernel
theorem dX6_bestQuestion_17 : decode cX6_bestQuestion 17 = .ok (.iload 5, 2) := by decide +kernel
theorem dX6_bestQuestion_19 : decode cX6_bestQuestion 19 = .ok (.iconst 0, 1) := by decide +kernel
theorem dX6_bestQuestion_20 : decode cX6_bestQuestion 20 = .ok (.iastore, 1) := by decide +kernel
theorem dX6_bestQuestion_21 : decode cX6_bestQuestion 21 = .ok (.iinc 5 1, 3) := by decide +kernel
theorem dX6_bestQuestion_24 : decode cX6_bestQuestion 24 = .ok (.goto (-18), 3) := by decide +kernel
theorem dX6_bestQuestion_27 : decode cX6_bestQuestion 27 = .ok (.iconst 0, 1) := by decide +kernel
theorem dX6_bestQuestion_28 : decode cX6_bestQuestion 28 = .ok (.istore 5, 2) := by decide +kernel
theorem dX6_bestQuestion_30 : decode cX6_bestQuestion 30 = .ok (.iload 5, 2) := by decide +kernel
theorem dX6_bestQuestion_32 : decode cX6_bestQuestion 32 = .ok (.sipush 256, 3) := by decide +kernel
theorem dX6_bestQuestion_35 : decode cX6_bestQuestion 35 = .ok (.if_icmp .ge 57, 3) := by decide +kernel
theorem dX6_bestQuestion_38 : decode cX6_bestQuestion 38 = .ok (.aload_n 0, 1) := by decide +kernel
theorem dX6_bestQuestion_39 : decode cX6_bestQuestion 39 = .ok (.aload_n 1, 1) := by decide +kernel
theorem dX6_bestQuestion_40 : decode cX6_bestQuestion 40 = .ok (.iload_n 2, 1) := by decide +kernel
theorem dX6_bestQuestion_41 : decode cX6_bestQuestion 41 = .ok (.iload_n 3, 1) := by decide +kernel
theorem dX6_bestQuestion_42 : decode cX6_bestQuestion 42 = .ok (.iload 5, 2) := by decide +kernel
theorem dX6_bestQuestion_44 : decode cX6_bestQuestion 44 = .ok (.invokevirtual 65, 3) := by decide +kernel
theorem dX6_bestQuestion_47 : decode cX6_bestQuestion 47 = .ok (.ifCond .eq 39, 3) := by decide +kernel
theorem dX6_bestQuestion_50 : decode cX6_bestQuestion 50 = .ok (.iinc 4 1, 3) := by decide +kernel
theorem dX6_bestQuestion_53 : decode cX6_bestQuestion 53 = .ok (.iconst 0, 1) := by decide +kernel
theorem dX6_bestQuestion_54 : decode cX6_bestQuestion 54 = .ok (.istore 6, 2) := by decide +kernel
theorem dX6_bestQuestion_56 : decode cX6_bestQuestion 56 = .ok (.iload 6, 2) := by decide +kernel
theorem dX6_bestQuestion_58 : decode cX6_bestQuestion 58 = .ok (.bipush 8, 2) := by decide +kernel
theorem dX6_bestQuestion_60 : decode cX6_bestQuestion 60 = .ok (.if_icmp .ge 26, 3) := by decide +kernel
theorem dX6_bestQuestion_63 : decode cX6_bestQuestion 63 = .ok (.aload_n 0, 1) := by decide +kernel
theorem dX6_bestQuestion_64 : decode cX6_bestQuestion 64 = .ok (.getfield 15, 3) := by decide +kernel
theorem dX6_bestQuestion_67 : decode cX6_bestQuestion 67 = .ok (.iload 6, 2) := by decide +kernel
theorem dX6_bestQuestion_69 : decode cX6_bestQuestion 69 = .ok (.dup2, 1) := by decide +kernel
theorem dX6_bestQuestion_70 : decode cX6_bestQuestion 70 = .ok (.iaload, 1) := by decide +kernel
theorem dX6_bestQuestion_71 : decode cX6_bestQuestion 71 = .ok (.iload 5, 2) := by decide +kernel
theorem dX6_bestQuestion_73 : decode cX6_bestQuestion 73 = .ok (.iload 6, 2) := by decide +kernel
theorem dX6_bestQuestion_75 : decode cX6_bestQuestion 75 = .ok (.ishr, 1) := by decide +kernel
theorem dX6_bestQuestion_76 : decode cX6_bestQuestion 76 = .ok (.iconst 1, 1) := by decide +kernel
theorem dX6_bestQuestion_77 : decode cX6_bestQuestion 77 = .ok (.iand, 1) := by decide +kernel
theorem dX6_bestQuestion_78 : decode cX6_bestQuestion 78 = .ok (.iadd, 1) := by decide +kernel
theorem dX6_bestQuestion_79 : decode cX6_bestQuestion 79 = .ok (.iastore, 1) := by decide +kernel
theorem dX6_bestQuestion_80 : decode cX6_bestQuestion 80 = .ok (.iinc 6 1, 3) := by decide +kernel
theorem dX6_bestQuestion_83 : decode cX6_bestQuestion 83 = .ok (.goto (-27), 3) := by decide +kernel
theorem dX6_bestQuestion_86 : decode cX6_bestQuestion 86 = .ok (.iinc 5 1, 3) := by decide +kernel
theorem dX6_bestQuestion_89 : decode cX6_bestQuestion 89 = .ok (.goto (-59), 3) := by decide +kernel
theorem dX6_bestQuestion_92 : decode cX6_bestQuestion 92 = .ok (.iconst (-1), 1) := by decide +kernel
theorem dX6_bestQuestion_93 : decode cX6_bestQuestion 93 = .ok (.istore 5, 2) := by decide +kernel
theorem dX6_bestQuestion_95 : decode cX6_bestQuestion 95 = .ok (.iload 4, 2) := by decide +kernel
theorem dX6_bestQuestion_97 : decode cX6_bestQuestion 97 = .ok (.iconst 1, 1) := by decide +kernel
theorem dX6_bestQuestion_98 : decode cX6_bestQuestion 98 = .ok (.iadd, 1) := by decide +kernel
theorem dX6_bestQuestion_99 : decode cX6_bestQuestion 99 = .ok (.istore 6, 2) := by decide +kernel
theorem dX6_bestQuestion_101 : decode cX6_bestQuestion 101 = .ok (.iconst 0, 1) := by decide +kernel
theorem dX6_bestQuestion_102 : decode cX6_bestQuestion 102 = .ok (.istore 7, 2) := by decide +kernel
theorem dX6_bestQuestion_104 : decode cX6_bestQuestion 104 = .ok (.iload 7, 2) := by decide +kernel
theorem dX6_bestQuestion_106 : decode cX6_bestQuestion 106 = .ok (.bipush 8, 2) := by decide +kernel
theorem dX6_bestQuestion_108 : decode cX6_bestQuestion 108 = .ok (.if_icmp .ge 52, 3) := by decide +kernel
theorem dX6_bestQuestion_111 : decode cX6_bestQuestion 111 = .ok (.iload 4, 2) := by decide +kernel
theorem dX6_bestQuestion_113 : decode cX6_bestQuestion 113 = .ok (.iconst 1, 1) := by decide +kernel
theorem dX6_bestQuestion_114 : decode cX6_bestQuestion 114 = .ok (.if_icmp .le 46, 3) := by decide +kernel
theorem dX6_bestQuestion_117 : decode cX6_bestQuestion 117 = .ok (.aload_n 0, 1) := by decide +kernel
theorem dX6_bestQuestion_118 : decode cX6_bestQuestion 118 = .ok (.getfield 15, 3) := by decide +kernel
theorem dX6_bestQuestion_121 : decode cX6_bestQuestion 121 = .ok (.iload 7, 2) := by decide +kernel
theorem dX6_bestQuestion_123 : decode cX6_bestQuestion 123 = .ok (.iaload, 1) := by decide +kernel
theorem dX6_bestQuestion_124 : decode cX6_bestQuestion 124 = .ok (.iload 4, 2) := by decide +kernel
theorem dX6_bestQuestion_126 : decode cX6_bestQuestion 126 = .ok (.aload_n 0, 1) := by decide +kernel
theorem dX6_bestQuestion_127 : decode cX6_bestQuestion 127 = .ok (.getfield 15, 3) := by decide +kernel
theorem dX6_bestQuestion_130 : decode cX6_bestQuestion 130 = .ok (.iload 7, 2) := by decide +kernel
theorem dX6_bestQuestion_132 : decode cX6_bestQuestion 132 = .ok (.iaload, 1) := by decide +kernel
theorem dX6_bestQuestion_133 : decode cX6_bestQuestion 133 = .ok (.isub, 1) := by decide +kernel
theorem dX6_bestQuestion_134 : decode cX6_bestQuestion 134 = .ok (.invokestatic 69, 3) := by decide +kernel
theorem dX6_bestQuestion_137 : decode cX6_bestQuestion 137 = .ok (.istore 8, 2) := by decide +kernel
theorem dX6_bestQuestion_139 : decode cX6_bestQuestion 139 = .ok (.iload 8, 2) := by decide +kernel
theorem dX6_bestQuestion_141 : decode cX6_bestQuestion 141 = .ok (.iload 6, 2) := by decide +kernel
theorem dX6_bestQuestion_143 : decode cX6_bestQuestion 143 = .ok (.if_icmp .ge 11, 3) := by decide +kernel
theorem dX6_bestQuestion_146 : decode cX6_bestQuestion 146 = .ok (.iload 8, 2) := by decide +kernel
theorem dX6_bestQuestion_148 : decode cX6_bestQuestion 148 = .ok (.istore 6, 2) := by decide +kernel
theorem dX6_bestQuestion_150 : decode cX6_bestQuestion 150 = .ok (.iload 7, 2) := by decide +kernel
theorem dX6_bestQuestion_152 : decode cX6_bestQuestion 152 = .ok (.istore 5, 2) := by decide +kernel
theorem dX6_bestQuestion_154 : decode cX6_bestQuestion 154 = .ok (.iinc 7 1, 3) := by decide +kernel
theorem dX6_bestQuestion_157 : decode cX6_bestQuestion 157 = .ok (.goto (-53), 3) := by decide +kernel
theorem dX6_bestQuestion_160 : decode cX6_bestQuestion 160 = .ok (.iload 5, 2) := by decide +kernel
theorem dX6_bestQuestion_162 : decode cX6_bestQuestion 162 = .ok (.ireturn, 1) := by decide +kernel
theorem dX6_isFit_0 : decode cX6_isFit 0 = .ok (.iload 4, 2) := by decide +kernel
theorem dX6_isFit_2 : decode cX6_isFit 2 = .ok (.invokestatic 74, 3) := by decide +kernel
theorem dX6_isFit_5 : decode cX6_isFit 5 = .ok (.aload_n 1, 1) := by decide +kernel
theorem dX6_isFit_6 : decode cX6_isFit 6 = .ok (.getfield 79, 3) := by decide +kernel
theorem dX6_isFit_9 : decode cX6_isFit 9 = .ok (.if_icmp .le 5, 3) := by decide +kernel
theorem dX6_isFit_12 : decode cX6_isFit 12 = .ok (.iconst 0, 1) := by decide +kernel
theorem dX6_isFit_13 : decode cX6_isFit 13 = .ok (.ireturn, 1) := by decide +kernel
theorem dX6_isFit_14 : decode cX6_isFit 14 = .ok (.iconst 0, 1) := by decide +kernel
theorem dX6_isFit_15 : decode cX6_isFit 15 = .ok (.istore 5, 2) := by decide +kernel
theorem dX6_isFit_17 : decode cX6_isFit 17 = .ok (.iconst 0, 1) := by decide +kernel
theorem dX6_isFit_18 : decode cX6_isFit 18 = .ok (.istore 6, 2) := by decide +kernel
theorem dX6_isFit_20 : decode cX6_isFit 20 = .ok (.iload 6, 2) := by decide +kernel
theorem dX6_isFit_22 : decode cX6_isFit 22 = .ok (.aload_n 1, 1) := by decide +kernel
theorem dX6_isFit_23 : decode cX6_isFit 23 = .ok (.getfield 82, 3) := by decide +kernel
theorem dX6_isFit_26 : decode cX6_isFit 26 = .ok (.if_icmp .ge 59, 3) := by decide +kernel
theorem dX6_isFit_29 : decode cX6_isFit 29 = .ok (.iload 6, 2) := by decide +kernel
theorem dX6_isFit_31 : decode cX6_isFit 31 = .ok (.iconst 3, 1) := by decide +kernel
theorem dX6_isFit_32 : decode cX6_isFit 32 = .ok (.imul, 1) := by decide +kernel
theorem dX6_isFit_33 : decode cX6_isFit 33 = .ok (.istore 7, 2) := by decide +kernel
theorem dX6_isFit_35 : decode cX6_isFit 35 = .ok (.iload 4, 2) := by decide +kernel
theorem dX6_isFit_37 : decode cX6_isFit 37 = .ok (.aload_n 1, 1) := by decide +kernel
theorem dX6_isFit_38 : decode cX6_isFit 38 = .ok (.getfield 85, 3) := by decide +kernel
theorem dX6_isFit_41 : decode cX6_isFit 41 = .ok (.iload 7, 2) := by decide +kernel
theorem dX6_isFit_43 : decode cX6_isFit 43 = .ok (.iconst 1, 1) := by decide +kernel
theorem dX6_isFit_44 : decode cX6_isFit 44 = .ok (.iadd, 1) := by decide +kernel
theorem dX6_isFit_45 : decode cX6_isFit 45 = .ok (.iaload, 1) := by decide +kernel
theorem dX6_isFit_46 : decode cX6_isFit 46 = .ok (.ishr, 1) := by decide +kernel
theorem dX6_isFit_47 : decode cX6_isFit 47 = .ok (.iconst 1, 1) := by decide +kernel
theorem dX6_isFit_48 : decode cX6_isFit 48 = .ok (.iand, 1) := by decide +kernel
theorem dX6_isFit_49 : decode cX6_isFit 49 = .ok (.istore 8, 2) := by decide +kernel
theorem dX6_isFit_51 : decode cX6_isFit 51 = .ok (.aload_n 1, 1) := by decide +kernel
theorem dX6_isFit_52 : decode cX6_isFit 52 = .ok (.getfield 85, 3) := by decide +kernel
theorem dX6_isFit_55 : decode cX6_isFit 55 = .ok (.iload 7, 2) := by decide +kernel
theorem dX6_isFit_57 : decode cX6_isFit 57 = .ok (.iaload, 1) := by decide +kernel
theorem dX6_isFit_58 : decode cX6_isFit 58 = .ok (.iload_n 2, 1) := by decide +kernel
theorem dX6_isFit_59 : decode cX6_isFit 59 = .ok (.if_icmp .ne 20, 3) := by decide +kernel
theorem dX6_isFit_62 : decode cX6_isFit 62 = .ok (.iload 8, 2) := by decide +kernel
theorem dX6_isFit_64 : decode cX6_isFit 64 = .ok (.aload_n 1, 1) := by decide +kernel
theorem dX6_isFit_65 : decode cX6_isFit 65 = .ok (.getfield 85, 3) := by decide +kernel
theorem dX6_isFit_68 : decode cX6_isFit 68 = .ok (.iload 7, 2) := by decide +kernel
theorem dX6_isFit_70 : decode cX6_isFit 70 = .ok (.iconst 2, 1) := by decide +kernel
theorem dX6_isFit_71 : decode cX6_isFit 71 = .ok (.iadd, 1) := by decide +kernel
theorem dX6_isFit_72 : decode cX6_isFit 72 = .ok (.iaload, 1) := by decide +kernel
theorem dX6_isFit_73 : decode cX6_isFit 73 = .ok (.if_icmp .ne 6, 3) := by decide +kernel
theorem dX6_isFit_76 : decode cX6_isFit 76 = .ok (.iinc 5 1, 3) := by decide +kernel
theorem dX6_isFit_79 : decode cX6_isFit 79 = .ok (.iinc 6 1, 3) := by decide +kernel
theorem dX6_isFit_82 : decode cX6_isFit 82 = .ok (.goto (-62), 3) := by decide +kernel
theorem dX6_isFit_85 : decode cX6_isFit 85 = .ok (.iload 5, 2) := by decide +kernel
theorem dX6_isFit_87 : decode cX6_isFit 87 = .ok (.iload_n 3, 1) := by decide +kernel
theorem dX6_isFit_88 : decode cX6_isFit 88 = .ok (.if_icmp .gt 7, 3) := by decide +kernel
theorem dX6_isFit_91 : decode cX6_isFit 91 = .ok (.iconst 1, 1) := by decide +kernel
theorem dX6_isFit_92 : decode cX6_isFit 92 = .ok (.goto 4, 3) := by decide +kernel
theorem dX6_isFit_95 : decode cX6_isFit 95 = .ok (.iconst 0, 1) := by decide +kernel
theorem dX6_isFit_96 : decode cX6_isFit 96 = .ok (.ireturn, 1) := by decide +kernel
theorem dX7_init_0 : decode cX7_init 0 = .ok (.aload_n 0, 1) := by decide +kernel
theorem dX7_init_1 : decode cX7_init 1 = .ok (.invokespecial 3, 3) := by decide +kernel
theorem dX7_init_4 : decode cX7_init 4 = .ok (.aload_n 0, 1) := by decide +kernel
theorem dX7_init_5 : decode cX7_init 5 = .ok (.aload_n 1, 1) := by decide +kernel
theorem dX7_init_6 : decode cX7_init 6 = .ok (.putfield 9, 3) := by decide +kernel
theorem dX7_init_9 : decode cX7_init 9 = .ok (.aload_n 0, 1) := by decide +kernel
theorem dX7_init_10 : decode cX7_init 10 = .ok (.aload_n 2, 1) := by decide +kernel
theorem dX7_init_11 : decode cX7_init 11 = .ok (.putfield 15, 3) := by decide +kernel
theorem dX7_init_14 : decode cX7_init 14 = .ok (.aload_n 0, 1) := by decide +kernel
theorem dX7_init_15 : decode cX7_init 15 = .ok (.aload_n 3, 1) := by decide +kernel
theorem dX7_init_16 : decode cX7_init 16 = .ok (.putfield 19, 3) := by decide +kernel
theorem dX7_init_19 : decode cX7_init 19 = .ok (.aload_n 0, 1) := by decide +kernel
theorem dX7_init_20 : decode cX7_init 20 = .ok (.iload 4, 2) := by decide +kernel
theorem dX7_init_22 : decode cX7_init 22 = .ok (.putfield 23, 3) := by decide +kernel
theorem dX7_init_25 : decode cX7_init 25 = .ok (.return_, 1) := by decide +kernel
theorem dX7_fallAsleep_0 : decode cX7_fallAsleep 0 = .ok (.aload_n 0, 1) := by decide +kernel
theorem dX7_fallAsleep_1 : decode cX7_fallAsleep 1 = .ok (.getfield 15, 3) := by decide +kernel
theorem dX7_fallAsleep_4 : decode cX7_fallAsleep 4 = .ok (.aload_n 0, 1) := by decide +kernel
theorem dX7_fallAsleep_5 : decode cX7_fallAsleep 5 = .ok (.getfield 9, 3) := by decide +kernel
theorem dX7_fallAsleep_8 : decode cX7_fallAsleep 8 = .ok (.getfield 27, 3) := by decide +kernel
theorem dX7_fallAsleep_11 : decode cX7_fallAsleep 11 = .ok (.invokevirtual 30, 3) := by decide +kernel
theorem dX7_fallAsleep_14 : decode cX7_fallAsleep 14 = .ok (.return_, 1) := by decide +kernel
theorem dX7_plant_0 : decode cX7_plant 0 = .ok (.aload_n 0, 1) := by decide +kernel
theorem dX7_plant_1 : decode cX7_plant 1 = .ok (.getfield 15, 3) := by decide +kernel
theorem dX7_plant_4 : decode cX7_plant 4 = .ok (.iload_n 1, 1) := by decide +kernel
theorem dX7_plant_5 : decode cX7_plant 5 = .ok (.iload_n 2, 1) := by decide +kernel
theorem dX7_plant_6 : decode cX7_plant 6 = .ok (.bipush 10, 2) := by decide +kernel
theorem dX7_plant_8 : decode cX7_plant 8 = .ok (.iload_n 3, 1) := by decide +kernel
theorem dX7_plant_9 : decode cX7_plant 9 = .ok (.invokevirtual 36, 3) := by decide +kernel
theorem dX7_plant_12 : decode cX7_plant 12 = .ok (.aload_n 0, 1) := by decide +kernel
theorem dX7_plant_13 : decode cX7_plant 13 = .ok (.iconst 0, 1) := by decide +kernel
theorem dX7_plant_14 : decode cX7_plant 14 = .ok (.iload_n 1, 1) := by decide +kernel
theorem dX7_plant_15 : decode cX7_plant 15 = .ok (.iload_n 2, 1) := by decide +kernel
theorem dX7_plant_16 : decode cX7_plant 16 = .ok (.invokevirtual 40, 3) := by decide +kernel
theorem dX7_plant_19 : decode cX7_plant 19 = .ok (.return_, 1) := by decide +kernel
theorem dX7_pour_0 : decode cX7_pour 0 = .ok (.aload_n 0, 1) := by decide +kernel
theorem dX7_pour_1 : decode cX7_pour 1 = .ok (.getfield 15, 3) := by decide +kernel
theorem dX7_pour_4 : decode cX7_pour 4 = .ok (.getfield 44, 3) := by decide +kernel
theorem dX7_pour_7 : decode cX7_pour 7 = .ok (.iload_n 1, 1) := by decide +kernel
theorem dX7_pour_8 : decode cX7_pour 8 = .ok (.bipush 99, 2) := by decide +kernel
theorem dX7_pour_10 : decode cX7_pour 10 = .ok (.aload_n 0, 1) := by decide +kernel
theorem dX7_pour_11 : decode cX7_pour 11 = .ok (.getfield 15, 3) := by decide +kernel
theorem dX7_pour_14 : decode cX7_pour 14 = .ok (.getfield 44, 3) := by decide +kernel
theorem dX7_pour_17 : decode cX7_pour 17 = .ok (.iload_n 1, 1) := by decide +kernel
theorem dX7_pour_18 : decode cX7_pour 18 = .ok (.iaload, 1) := by decide +kernel
theorem dX7_pour_19 : decode cX7_pour 19 = .ok (.iload_n 2, 1) := by decide +kernel
theorem dX7_pour_20 : decode cX7_pour 20 = .ok (.iadd, 1) := by decide +kernel
theorem dX7_pour_21 : decode cX7_pour 21 = .ok (.invokestatic 48, 3) := by decide +kernel
theorem dX7_pour_24 : decode cX7_pour 24 = .ok (.iastore, 1) := by decide +kernel
theorem dX7_pour_25 : decode cX7_pour 25 = .ok (.return_, 1) := by decide +kernel
theorem dX7_lose_0 : decode cX7_lose 0 = .ok (.aload_n 0, 1) := by decide +kernel
theorem dX7_lose_1 : decode cX7_lose 1 = .ok (.iload_n 2, 1) := by decide +kernel
theorem dX7_lose_2 : decode cX7_lose 2 = .ok (.iload_n 1, 1) := by decide +kernel
theorem dX7_lose_3 : decode cX7_lose 3 = .ok (.aload_n 0, 1) := by decide +kernel
theorem dX7_lose_4 : decode cX7_lose 4 = .ok (.getfield 15, 3) := by decide +kernel
theorem dX7_lose_7 : decode cX7_lose 7 = .ok (.getfield 54, 3) := by decide +kernel
theorem dX7_lose_10 : decode cX7_lose 10 = .ok (.iload_n 1, 1) := by decide +kernel
theorem dX7_lose_11 : decode cX7_lose 11 = .ok (.iaload, 1) := by decide +kernel
theorem dX7_lose_12 : decode cX7_lose 12 = .ok (.invokevirtual 40, 3) := by decide +kernel
theorem dX7_lose_15 : decode cX7_lose 15 = .ok (.aload_n 0, 1) := by decide +kernel
theorem dX7_lose_16 : decode cX7_lose 16 = .ok (.getfield 15, 3) := by decide +kernel
theorem dX7_lose_19 : decode cX7_lose 19 = .ok (.iload_n 1, 1) := by decide +kernel
theorem dX7_lose_20 : decode cX7_lose 20 = .ok (.invokevirtual 57, 3) := by decide +kernel
theorem dX7_lose_23 : decode cX7_lose 23 = .ok (.return_, 1) := by decide +kernel
theorem dX7_pass_0 : decode cX7_pass 0 = .ok (.iconst 0, 1) := by decide +kernel
theorem dX7_pass_1 : decode cX7_pass 1 = .ok (.istore_n 1, 1) := by decide +kernel
theorem dX7_pass_2 : decode cX7_pass 2 = .ok (.iload_n 1, 1) := by decide +kernel
theorem dX7_pass_3 : decode cX7_pass 3 = .ok (.aload_n 0, 1) := by decide +kernel
theorem dX7_pass_4 : decode cX7_pass 4 = .ok (.getfield 9, 3) := by decide +kernel
theorem dX7_pass_7 : decode cX7_pass 7 = .ok (.getfield 61, 3) := by decide +kernel
theorem dX7_pass_10 : decode cX7_pass 10 = .ok (.getfield 65, 3) := by decide +kernel
theorem dX7_pass_13 : decode cX7_pass 13 = .ok (.if_icmp .ge 36, 3) := by decide +kernel
theorem dX7_pass_16 : decode cX7_pass 16 = .ok (.aload_n 0, 1) := by decide +kernel
theorem dX7_pass_17 : decode cX7_pass 17 = .ok (.getfield 9, 3) := by decide +kernel
theorem dX7_pass_20 : decode cX7_pass 20 = .ok (.getfield 61, 3) := by decide +kernel
theorem dX7_pass_23 : decode cX7_pass 23 = .ok (.iload_n 1, 1) := by decide +kernel
theorem dX7_pass_24 : decode cX7_pass 24 = .ok (.iconst 0, 1) := by decide +kernel
theorem dX7_pass_25 : decode cX7_pass 25 = .ok (.invokevirtual 71, 3) := by decide +kernel
theorem dX7_pass_28 : decode cX7_pass 28 = .ok (.aload_n 0, 1) := by decide +kernel
theorem dX7_pass_29 : decode cX7_pass 29 = .ok (.getfield 15, 3) := by decide +kernel
theorem dX7_pass_32 : decode cX7_pass 32 = .ok (.getfield 74, 3) := by decide +kernel
theorem dX7_pass_35 : decode cX7_pass 35 = .ok (.if_icmp .ne 8, 3) := by decide +kernel
theorem dX7_pass_38 : decode cX7_pass 38 = .ok (.aload_n 0, 1) := by decide +kernel
theorem dX7_pass_39 : decode cX7_pass 39 = .ok (.iload_n 1, 1) := by decide +kernel
theorem dX7_pass_40 : decode cX7_pass 40 = .ok (.invokevirtual 77, 3) := by decide +kernel
theorem dX7_pass_43 : decode cX7_pass 43 = .ok (.iinc 1 1, 3) := by decide +kernel
theorem dX7_pass_46 : decode cX7_pass 46 = .ok (.goto (-44), 3) := by decide +kernel
theorem dX7_pass_49 : decode cX7_pass 49 = .ok (.iconst 0, 1) := by decide +kernel
theorem dX7_pass_50 : decode cX7_pass 50 = .ok (.istore_n 1, 1) := by decide +kernel
theorem dX7_pass_51 : decode cX7_pass 51 = .ok (.iload_n 1, 1) := by decide +kernel
theorem dX7_pass_52 : decode cX7_pass 52 = .ok (.aload_n 0, 1) := by decide +kernel
theorem dX7_pass_53 : decode cX7_pass 53 = .ok (.getfield 9, 3) := by decide +kernel
theorem dX7_pass_56 : decode cX7_pass 56 = .ok (.getfield 80, 3) := by decide +kernel
theorem dX7_pass_59 : decode cX7_pass 59 = .ok (.if_icmp .ge 14, 3) := by decide +kernel
theorem dX7_pass_62 : decode cX7_pass 62 = .ok (.aload_n 0, 1) := by decide +kernel
theorem dX7_pass_63 : decode cX7_pass 63 = .ok (.iload_n 1, 1) := by decide +kernel
theorem dX7_pass_64 : decode cX7_pass 64 = .ok (.invokevirtual 83, 3) := by decide +kernel
theorem dX7_pass_67 : decode cX7_pass 67 = .ok (.iinc 1 1, 3) := by decide +kernel
theorem dX7_pass_70 : decode cX7_pass 70 = .ok (.goto (-19), 3) := by decide +kernel
theorem dX7_pass_73 : decode cX7_pass 73 = .ok (.iconst 0, 1) := by decide +kernel
theorem dX7_pass_74 : decode cX7_pass 74 = .ok (.istore_n 1, 1) := by decide +kernel
theorem dX7_pass_75 : decode cX7_pass 75 = .ok (.iload_n 1, 1) := by decide +kernel
theorem dX7_pass_76 : decode cX7_pass 76 = .ok (.aload_n 0, 1) := by decide +kernel
theorem dX7_pass_77 : decode cX7_pass 77 = .ok (.getfield 9, 3) := by decide +kernel
theorem dX7_pass_80 : decode cX7_pass 80 = .ok (.getfield 80, 3) := by decide +kernel
theorem dX7_pass_83 : decode cX7_pass 83 = .ok (.if_icmp .ge 33, 3) := by decide +kernel
theorem dX7_pass_86 : decode cX7_pass 86 = .ok (.aload_n 0, 1) := by decide +kernel
theorem dX7_pass_87 : decode cX7_pass 87 = .ok (.getfield 15, 3) := by decide +kernel
theorem dX7_pass_90 : decode cX7_pass 90 = .ok (.iload_n 1, 1) := by decide +kernel
theorem dX7_pass_91 : decode cX7_pass 91 = .ok (.invokevirtual 86, 3) := by decide +kernel
theorem dX7_pass_94 : decode cX7_pass 94 = .ok (.ifCond .eq 16, 3) := by decide +kernel
theorem dX7_pass_97 : decode cX7_pass 97 = .ok (.aload_n 0, 1) := by decide +kernel
theorem dX7_pass_98 : decode cX7_pass 98 = .ok (.iload_n 1, 1) := by decide +kernel
theorem dX7_pass_99 : decode cX7_pass 99 = .ok (.aload_n 0, 1) := by decide +kernel
theorem dX7_pass_100 : decode cX7_pass 100 = .ok (.getfield 15, 3) := by decide +kernel
theorem dX7_pass_103 : decode cX7_pass 103 = .ok (.iload_n 1, 1) := by decide +kernel
theorem dX7_pass_104 : decode cX7_pass 104 = .ok (.invokevirtual 90, 3) := by decide +kernel
theorem dX7_pass_107 : decode cX7_pass 107 = .ok (.invokevirtual 94, 3) := by decide +kernel
theorem dX7_pass_110 : decode cX7_pass 110 = .ok (.iinc 1 1, 3) := by decide +kernel
theorem dX7_pass_113 : decode cX7_pass 113 = .ok (.goto (-38), 3) := by decide +kernel
theorem dX7_pass_116 : decode cX7_pass 116 = .ok (.aload_n 0, 1) := by decide +kernel
theorem dX7_pass_117 : decode cX7_pass 117 = .ok (.getfield 23, 3) := by decide +kernel
theorem dX7_pass_120 : decode cX7_pass 120 = .ok (.ifCond .eq 17, 3) := by decide +kernel
theorem dX7_pass_123 : decode cX7_pass 123 = .ok (.aload_n 0, 1) := by decide +kernel
theorem dX7_pass_124 : decode cX7_pass 124 = .ok (.getfield 9, 3) := by decide +kernel
theorem dX7_pass_127 : decode cX7_pass 127 = .ok (.getfield 98, 3) := by decide +kernel
theorem dX7_pass_130 : decode cX7_pass 130 = .ok (.ifCond .le 7, 3) := by decide +kernel
theorem dX7_pass_133 : decode cX7_pass 133 = .ok (.aload_n 0, 1) := by decide +kernel
theorem dX7_pass_134 : decode cX7_pass 134 = .ok (.invokevirtual 101, 3) := by decide +kernel
theorem dX7_pass_137 : decode cX7_pass 137 = .ok (.aload_n 0, 1) := by decide +kernel
theorem dX7_pass_138 : decode cX7_pass 138 = .ok (.getfield 23, 3) := by decide +kernel
theorem dX7_pass_141 : decode cX7_pass 141 = .ok (.ifCond .eq 17, 3) := by decide +kernel
theorem dX7_pass_144 : decode cX7_pass 144 = .ok (.aload_n 0, 1) := by decide +kernel
theorem dX7_pass_145 : decode cX7_pass 145 = .ok (.getfield 9, 3) := by decide +kernel
theorem dX7_pass_148 : decode cX7_pass 148 = .ok (.getfield 104, 3) := by decide +kernel
theorem dX7_pass_151 : decode cX7_pass 151 = .ok (.ifCond .le 7, 3) := by decide +kernel
theorem dX7_pass_154 : decode cX7_pass 154 = .ok (.aload_n 0, 1) := by decide +kernel
theorem dX7_pass_155 : decode cX7_pass 155 = .ok (.invokevirtual 107, 3) := by decide +kernel
theorem dX7_pass_158 : decode cX7_pass 158 = .ok (.aload_n 0, 1) := by decide +kernel
theorem dX7_pass_159 : decode cX7_pass 159 = .ok (.invokevirtual 110, 3) := by decide +kernel
theorem dX7_pass_162 : decode cX7_pass 162 = .ok (.istore_n 1, 1) := by decide +kernel
theorem dX7_pass_163 : decode cX7_pass 163 = .ok (.aload_n 0, 1) := by decide +kernel
theorem dX7_pass_164 : decode cX7_pass 164 = .ok (.getfield 15, 3) := by decide +kernel
theorem dX7_pass_167 : decode cX7_pass 167 = .ok (.dup, 1) := by decide +kernel
theorem dX7_pass_168 : decode cX7_pass 168 = .ok (.getfield 74, 3) := by decide +kernel
theorem dX7_pass_171 : decode cX7_pass 171 = .ok (.iconst 1, 1) := by decide +kernel
theorem dX7_pass_172 : decode cX7_pass 172 = .ok (.iadd, 1) := by decide +kernel
theorem dX7_pass_173 : decode cX7_pass 173 = .ok (.putfield 74, 3) := by decide +kernel
theorem dX7_pass_176 : decode cX7_pass 176 = .ok (.iload_n 1, 1) := by decide +kernel
theorem dX7_pass_177 : decode cX7_pass 177 = .ok (.ireturn, 1) := by decide +kernel
theorem dX7_follow_0 : decode cX7_follow 0 = .ok (.aload_n 0, 1) := by decide +kernel
theorem dX7_follow_1 : decode cX7_follow 1 = .ok (.getfield 9, 3) := by decide +kernel
theorem dX7_follow_4 : decode cX7_follow 4 = .ok (.getfield 61, 3) := by decide +kernel
theorem dX7_follow_7 : decode cX7_follow 7 = .ok (.iload_n 1, 1) := by decide +kernel
theorem dX7_follow_8 : decode cX7_follow 8 = .ok (.iconst 1, 1) := by decide +kernel
theorem dX7_follow_9 : decode cX7_follow 9 = .ok (.invokevirtual 71, 3) := by decide +kernel
theorem dX7_follow_12 : decode cX7_follow 12 = .ok (.istore_n 2, 1) := by decide +kernel
theorem dX7_follow_13 : decode cX7_follow 13 = .ok (.aload_n 0, 1) := by decide +kernel
theorem dX7_follow_14 : decode cX7_follow 14 = .ok (.getfield 9, 3) := by decide +kernel
theorem dX7_follow_17 : decode cX7_follow 17 = .ok (.getfield 61, 3) := by decide +kernel
theorem dX7_follow_20 : decode cX7_follow 20 = .ok (.iload_n 1, 1) := by decide +kernel
theorem dX7_follow_21 : decode cX7_follow 21 = .ok (.iconst 2, 1) := by decide +kernel
theorem dX7_follow_22 : decode cX7_follow 22 = .ok (.invokevirtual 71, 3) := by decide +kernel
theorem dX7_follow_25 : decode cX7_follow 25 = .ok (.istore_n 3, 1) := by decide +kernel
theorem dX7_follow_26 : decode cX7_follow 26 = .ok (.aload_n 0, 1) := by decide +kernel
theorem dX7_follow_27 : decode cX7_follow 27 = .ok (.getfield 9, 3) := by decide +kernel
theorem dX7_follow_30 : decode cX7_follow 30 = .ok (.getfield 61, 3) := by decide +kernel
theorem dX7_follow_33 : decode cX7_follow 33 = .ok (.iload_n 1, 1) := by decide +kernel
theorem dX7_follow_34 : decode cX7_follow 34 = .ok (.iconst 3, 1) := by decide +kernel
theorem dX7_follow_35 : decode cX7_follow 35 = .ok (.invokevirtual 71, 3) := by decide +kernel
theorem dX7_follow_38 : decode cX7_follow 38 = .ok (.istore 4, 2) := by decide +kernel
theorem dX7_follow_40 : decode cX7_follow 40 = .ok (.aload_n 0, 1) := by decide +kernel
theorem dX7_follow_41 : decode cX7_follow 41 = .ok (.getfield 9, 3) := by decide +kernel
theorem dX7_follow_44 : decode cX7_follow 44 = .ok (.getfield 61, 3) := by decide +kernel
theorem dX7_follow_47 : decode cX7_follow 47 = .ok (.iload_n 1, 1) := by decide +kernel
theorem dX7_follow_48 : decode cX7_follow 48 = .ok (.iconst 4, 1) := by decide +kernel
theorem dX7_follow_49 : decode cX7_follow 49 = .ok (.invokevirtual 71, 3) := by decide +kernel
theorem dX7_follow_52 : decode cX7_follow 52 = .ok (.istore 5, 2) := by decide +kernel
theorem dX7_follow_54 : decode cX7_follow 54 = .ok (.aload_n 0, 1) := by decide +kernel
theorem dX7_follow_55 : decode cX7_follow 55 = .ok (.getfield 15, 3) := by decide +kernel
theorem dX7_follow_58 : decode cX7_follow 58 = .ok (.iload_n 3, 1) := by decide +kernel
theorem dX7_follow_59 : decode cX7_follow 59 = .ok (.invokevirtual 86, 3) := by decide +kernel
theorem dX7_follow_62 : decode cX7_follow 62 = .ok (.istore 6, 2) := by decide +kernel
theorem dX7_follow_64 : decode cX7_follow 64 = .ok (.iload_n 2, 1) := by decide +kernel
theorem dX7_follow_65 : decode cX7_follow 65 = .ok (.bipush 26, 2) := by decide +kernel
theorem dX7_follow_67 : decode cX7_follow 67 = .ok (.if_icmp .ne 18, 3) := by decide +kernel
theorem dX7_follow_70 : decode cX7_follow 70 = .ok (.aload_n 0, 1) := by decide +kernel
theorem dX7_follow_71 : decode cX7_follow 71 = .ok (.getfield 15, 3) := by decide +kernel
theorem dX7_follow_74 : decode cX7_follow 74 = .ok (.iload_n 3, 1) := by decide +kernel
theorem dX7_follow_75 : decode cX7_follow 75 = .ok (.iload 4, 2) := by decide +kernel
theorem dX7_follow_77 : decode cX7_follow 77 = .ok (.iload 5, 2) := by decide +kernel
theorem dX7_follow_79 : decode cX7_follow 79 = .ok (.invokevirtual 114, 3) := by decide +kernel
theorem dX7_follow_82 : decode cX7_follow 82 = .ok (.goto 63, 3) := by decide +kernel
theorem dX7_follow_85 : decode cX7_follow 85 = .ok (.iload_n 2, 1) := by decide +kernel
theorem dX7_follow_86 : decode cX7_follow 86 = .ok (.bipush 22, 2) := by decide +kernel
theorem dX7_follow_88 : decode cX7_follow 88 = .ok (.if_icmp .ne 20, 3) := by decide +kernel
theorem dX7_follow_91 : decode cX7_follow 91 = .ok (.iload 6, 2) := by decide +kernel
theorem dX7_follow_93 : decode cX7_follow 93 = .ok (.ifCond .ne 15, 3) := by decide +kernel
theorem dX7_follow_96 : decode cX7_follow 96 = .ok (.aload_n 0, 1) := by decide +kernel
theorem dX7_follow_97 : decode cX7_follow 97 = .ok (.iload_n 3, 1) := by decide +kernel
theorem dX7_follow_98 : decode cX7_follow 98 = .ok (.iload 4, 2) := by decide +kernel
theorem dX7_follow_100 : decode cX7_follow 100 = .ok (.iload 5, 2) := by decide +kernel
theorem dX7_follow_102 : decode cX7_follow 102 = .ok (.invokevirtual 117, 3) := by decide +kernel
theorem dX7_follow_105 : decode cX7_follow 105 = .ok (.goto 40, 3) := by decide +kernel
theorem dX7_follow_108 : decode cX7_follow 108 = .ok (.iload_n 2, 1) := by decide +kernel
theorem dX7_follow_109 : decode cX7_follow 109 = .ok (.iconst 2, 1) := by decide +kernel
theorem dX7_follow_110 : decode cX7_follow 110 = .ok (.if_icmp .ne 18, 3) := by decide +kernel
theorem dX7_follow_113 : decode cX7_follow 113 = .ok (.iload 6, 2) := by decide +kernel
theorem dX7_follow_115 : decode cX7_follow 115 = .ok (.ifCond .eq 13, 3) := by decide +kernel
theorem dX7_follow_118 : decode cX7_follow 118 = .ok (.aload_n 0, 1) := by decide +kernel
theorem dX7_follow_119 : decode cX7_follow 119 = .ok (.iload_n 3, 1) := by decide +kernel
theorem dX7_follow_120 : decode cX7_follow 120 = .ok (.iload 4, 2) := by decide +kernel
theorem dX7_follow_122 : decode cX7_follow 122 = .ok (.invokevirtual 120, 3) := by decide +kernel
theorem dX7_follow_125 : decode cX7_follow 125 = .ok (.goto 20, 3) := by decide +kernel
theorem dX7_follow_128 : decode cX7_follow 128 = .ok (.iload_n 2, 1) := by decide +kernel
theorem dX7_follow_129 : decode cX7_follow 129 = .ok (.bipush 25, 2) := by decide +kernel
theorem dX7_follow_131 : decode cX7_follow 131 = .ok (.if_icmp .ne 14, 3) := by decide +kernel
theorem dX7_follow_134 : decode cX7_follow 134 = .ok (.iload 6, 2) := by decide +kernel
theorem dX7_follow_136 : decode cX7_follow 136 = .ok (.ifCond .eq 9, 3) := by decide +kernel
theorem dX7_follow_139 : decode cX7_follow 139 = .ok (.aload_n 0, 1) := by decide +kernel
theorem dX7_follow_140 : decode cX7_follow 140 = .ok (.iload_n 3, 1) := by decide +kernel
theorem dX7_follow_141 : decode cX7_follow 141 = .ok (.iconst 1, 1) := by decide +kernel
theorem dX7_follow_142 : decode cX7_follow 142 = .ok (.invokevirtual 123, 3) := by decide +kernel
theorem dX7_follow_145 : decode cX7_follow 145 = .ok (.return_, 1) := by decide +kernel
theorem dX7_reasonOut_0 : decode cX7_reasonOut 0 = .ok (.aload_n 0, 1) := by decide +kernel
theorem dX7_reasonOut_1 : decode cX7_reasonOut 1 = .ok (.getfield 15, 3) := by decide +kernel
theorem dX7_reasonOut_4 : decode cX7_reasonOut 4 = .ok (.iload_n 1, 1) := by decide +kernel
theorem dX7_reasonOut_5 : decode cX7_reasonOut 5 = .ok (.invokevirtual 126, 3) := by decide +kernel
theorem dX7_reasonOut_8 : decode cX7_reasonOut 8 = .ok (.istore_n 2, 1) := by decide +kernel
theorem dX7_reasonOut_9 : decode cX7_reasonOut 9 = .ok (.iconst 0, 1) := by decide +kernel
theorem dX7_reasonOut_10 : decode cX7_reasonOut 10 = .ok (.istore_n 3, 1) := by decide +kernel
theorem dX7_reasonOut_11 : decode cX7_reasonOut 11 = .ok (.iload_n 3, 1) := by decide +kernel
theorem dX7_reasonOut_12 : decode cX7_reasonOut 12 = .ok (.aload_n 0, 1) := by decide +kernel
theorem dX7_reasonOut_13 : decode cX7_reasonOut 13 = .ok (.getfield 9, 3) := by decide +kernel
theorem dX7_reasonOut_16 : decode cX7_reasonOut 16 = .ok (.getfield 129, 3) := by decide +kernel
theorem dX7_reasonOut_19 : decode cX7_reasonOut 19 = .ok (.getfield 65, 3) := by decide +kernel
theorem dX7_reasonOut_22 : decode cX7_reasonOut 22 = .ok (.if_icmp .ge 97, 3) := by decide +kernel
theorem dX7_reasonOut_25 : decode cX7_reasonOut 25 = .ok (.aload_n 0, 1) := by decide +kernel
theorem dX7_reasonOut_26 : decode cX7_reasonOut 26 = .ok (.getfield 9, 3) := by decide +kernel
theorem dX7_reasonOut_29 : decode cX7_reasonOut 29 = .ok (.getfield 129, 3) := by decide +kernel
theorem dX7_reasonOut_32 : decode cX7_reasonOut 32 = .ok (.iload_n 3, 1) := by decide +kernel
theorem dX7_reasonOut_33 : decode cX7_reasonOut 33 = .ok (.iconst 0, 1) := by decide +kernel
theorem dX7_reasonOut_34 : decode cX7_reasonOut 34 = .ok (.invokevirtual 71, 3) := by decide +kernel
theorem dX7_reasonOut_37 : decode cX7_reasonOut 37 = .ok (.istore 4, 2) := by decide +kernel
theorem dX7_reasonOut_39 : decode cX7_reasonOut 39 = .ok (.aload_n 0, 1) := by decide +kernel
theorem dX7_reasonOut_40 : decode cX7_reasonOut 40 = .ok (.getfield 9, 3) := by decide +kernel
theorem dX7_reasonOut_43 : decode cX7_reasonOut 43 = .ok (.getfield 129, 3) := by decide +kernel
theorem dX7_reasonOut_46 : decode cX7_reasonOut 46 = .ok (.iload_n 3, 1) := by decide +kernel
theorem dX7_reasonOut_47 : decode cX7_reasonOut 47 = .ok (.iconst 1, 1) := by decide +kernel
theorem dX7_reasonOut_48 : decode cX7_reasonOut 48 = .ok (.invokevirtual 71, 3) := by decide +kernel
theorem dX7_reasonOut_51 : decode cX7_reasonOut 51 = .ok (.istore 5, 2) := by decide +kernel
theorem dX7_reasonOut_53 : decode cX7_reasonOut 53 = .ok (.aload_n 0, 1) := by decide +kernel
theorem dX7_reasonOut_54 : decode cX7_reasonOut 54 = .ok (.getfield 9, 3) := by decide +kernel
theorem dX7_reasonOut_57 : decode cX7_reasonOut 57 = .ok (.getfield 129, 3) := by decide +kernel
theorem dX7_reasonOut_60 : decode cX7_reasonOut 60 = .ok (.iload_n 3, 1) := by decide +kernel
theorem dX7_reasonOut_61 : decode cX7_reasonOut 61 = .ok (.iconst 2, 1) := by decide +kernel
theorem dX7_reasonOut_62 : decode cX7_reasonOut 62 = .ok (.invokevirtual 71, 3) := by decide +kernel
theorem dX7_reasonOut_65 : decode cX7_reasonOut 65 = .ok (.istore 6, 2) := by decide +kernel
theorem dX7_reasonOut_67 : decode cX7_reasonOut 67 = .ok (.iload 6, 2) := by decide +kernel
theorem dX7_reasonOut_69 : decode cX7_reasonOut 69 = .ok (.ifCond .le 44, 3) := by decide +kernel
theorem dX7_reasonOut_72 : decode cX7_reasonOut 72 = .ok (.iload 5, 2) := by decide +kernel
theorem dX7_reasonOut_74 : decode cX7_reasonOut 74 = .ok (.iload_n 2, 1) := by decide +kernel
theorem dX7_reasonOut_75 : decode cX7_reasonOut 75 = .ok (.iconst (-1), 1) := by decide +kernel
theorem dX7_reasonOut_76 : decode cX7_reasonOut 76 = .ok (.ixor, 1) := by decide +kernel
theorem dX7_reasonOut_77 : decode cX7_reasonOut 77 = .ok (.iand, 1) := by decide +kernel
theorem dX7_reasonOut_78 : decode cX7_reasonOut 78 = .ok (.ifCond .ne 35, 3) := by decide +kernel
theorem dX7_reasonOut_81 : decode cX7_reasonOut 81 = .ok (.aload_n 0, 1) := by decide +kernel
theorem dX7_reasonOut_82 : decode cX7_reasonOut 82 = .ok (.getfield 15, 3) := by decide +kernel
theorem dX7_reasonOut_85 : decode cX7_reasonOut 85 = .ok (.iload_n 1, 1) := by decide +kernel
theorem dX7_reasonOut_86 : decode cX7_reasonOut 86 = .ok (.iload 4, 2) := by decide +kernel
theorem dX7_reasonOut_88 : decode cX7_reasonOut 88 = .ok (.aload_n 0, 1) := by decide +kernel
theorem dX7_reasonOut_89 : decode cX7_reasonOut 89 = .ok (.getfield 15, 3) := by decide +kernel
theorem dX7_reasonOut_92 : decode cX7_reasonOut 92 = .ok (.iload_n 1, 1) := by decide +kernel
theorem dX7_reasonOut_93 : decode cX7_reasonOut 93 = .ok (.iload 4, 2) := by decide +kernel
theorem dX7_reasonOut_95 : decode cX7_reasonOut 95 = .ok (.invokevirtual 132, 3) := by decide +kernel
theorem dX7_reasonOut_98 : decode cX7_reasonOut 98 = .ok (.iload 6, 2) := by decide +kernel
theorem dX7_reasonOut_100 : decode cX7_reasonOut 100 = .ok (.iadd, 1) := by decide +kernel
theorem dX7_reasonOut_101 : decode cX7_reasonOut 101 = .ok (.invokevirtual 114, 3) := by decide +kernel
theorem dX7_reasonOut_104 : decode cX7_reasonOut 104 = .ok (.aload_n 0, 1) := by decide +kernel
theorem dX7_reasonOut_105 : decode cX7_reasonOut 105 = .ok (.getfield 15, 3) := by decide +kernel
theorem dX7_reasonOut_108 : decode cX7_reasonOut 108 = .ok (.iload_n 1, 1) := by decide +kernel
theorem dX7_reasonOut_109 : decode cX7_reasonOut 109 = .ok (.invokevirtual 126, 3) := by decide +kernel
theorem dX7_reasonOut_112 : decode cX7_reasonOut 112 = .ok (.istore_n 2, 1) := by decide +kernel
theorem dX7_reasonOut_113 : decode cX7_reasonOut 113 = .ok (.iinc 3 1, 3) := by decide +kernel
theorem dX7_reasonOut_116 : decode cX7_reasonOut 116 = .ok (.goto (-105), 3) := by decide +kernel
theorem dX7_reasonOut_119 : decode cX7_reasonOut 119 = .ok (.return_, 1) := by decide +kernel
theorem dX7_growPot_0 : decode cX7_growPot 0 = .ok (.aload_n 0, 1) := by decide +kernel
theorem dX7_growPot_1 : decode cX7_growPot 1 = .ok (.getfield 15, 3) := by decide +kernel
theorem dX7_growPot_4 : decode cX7_growPot 4 = .ok (.getfield 54, 3) := by decide +kernel
theorem dX7_growPot_7 : decode cX7_growPot 7 = .ok (.iload_n 1, 1) := by decide +kernel
theorem dX7_growPot_8 : decode cX7_growPot 8 = .ok (.iaload, 1) := by decide +kernel
theorem dX7_growPot_9 : decode cX7_growPot 9 = .ok (.istore_n 3, 1) := by decide +kernel
theorem dX7_growPot_10 : decode cX7_growPot 10 = .ok (.aload_n 0, 1) := by decide +kernel
theorem dX7_growPot_11 : decode cX7_growPot 11 = .ok (.getfield 19, 3) := by decide +kernel
theorem dX7_growPot_14 : decode cX7_growPot 14 = .ok (.aload_n 0, 1) := by decide +kernel
theorem dX7_growPot_15 : decode cX7_growPot 15 = .ok (.getfield 9, 3) := by decide +kernel
theorem dX7_growPot_18 : decode cX7_growPot 18 = .ok (.aload_n 0, 1) := by decide +kernel
theorem dX7_growPot_19 : decode cX7_growPot 19 = .ok (.getfield 15, 3) := by decide +kernel
theorem dX7_growPot_22 : decode cX7_growPot 22 = .ok (.iload_n 1, 1) := by decide +kernel
theorem dX7_growPot_23 : decode cX7_growPot 23 = .ok (.iload_n 2, 1) := by decide +kernel
theorem dX7_growPot_24 : decode cX7_growPot 24 = .ok (.invokevirtual 135, 3) := by decide +kernel
theorem dX7_growPot_27 : decode cX7_growPot 27 = .ok (.aload_n 0, 1) := by decide +kernel
theorem dX7_growPot_28 : decode cX7_growPot 28 = .ok (.getfield 19, 3) := by decide +kernel
theorem dX7_growPot_31 : decode cX7_growPot 31 = .ok (.aload_n 0, 1) := by decide +kernel
theorem dX7_growPot_32 : decode cX7_growPot 32 = .ok (.getfield 9, 3) := by decide +kernel
theorem dX7_growPot_35 : decode cX7_growPot 35 = .ok (.getfield 141, 3) := by decide +kernel
theorem dX7_growPot_38 : decode cX7_growPot 38 = .ok (.invokevirtual 143, 3) := by decide +kernel
theorem dX7_growPot_41 : decode cX7_growPot 41 = .ok (.istore 4, 2) := by decide +kernel
theorem dX7_growPot_43 : decode cX7_growPot 43 = .ok (.aload_n 0, 1) := by decide +kernel
theorem dX7_growPot_44 : decode cX7_growPot 44 = .ok (.getfield 15, 3) := by decide +kernel
theorem dX7_growPot_47 : decode cX7_growPot 47 = .ok (.getfield 147, 3) := by decide +kernel
theorem dX7_growPot_50 : decode cX7_growPot 50 = .ok (.iload_n 1, 1) := by decide +kernel
theorem dX7_growPot_51 : decode cX7_growPot 51 = .ok (.iaload, 1) := by decide +kernel
theorem dX7_growPot_52 : decode cX7_growPot 52 = .ok (.aload_n 0, 1) := by decide +kernel
theorem dX7_growPot_53 : decode cX7_growPot 53 = .ok (.getfield 19, 3) := by decide +kernel
theorem dX7_growPot_56 : decode cX7_growPot 56 = .ok (.aload_n 0, 1) := by decide +kernel
theorem dX7_growPot_57 : decode cX7_growPot 57 = .ok (.getfield 9, 3) := by decide +kernel
theorem dX7_growPot_60 : decode cX7_growPot 60 = .ok (.getfield 141, 3) := by decide +kernel
theorem dX7_growPot_63 : decode cX7_growPot 63 = .ok (.invokevirtual 150, 3) := by decide +kernel
theorem dX7_growPot_66 : decode cX7_growPot 66 = .ok (.iadd, 1) := by decide +kernel
theorem dX7_growPot_67 : decode cX7_growPot 67 = .ok (.istore 5, 2) := by decide +kernel
theorem dX7_growPot_69 : decode cX7_growPot 69 = .ok (.aload_n 0, 1) := by decide +kernel
theorem dX7_growPot_70 : decode cX7_growPot 70 = .ok (.getfield 15, 3) := by decide +kernel
theorem dX7_growPot_73 : decode cX7_growPot 73 = .ok (.iload_n 1, 1) := by decide +kernel
theorem dX7_growPot_74 : decode cX7_growPot 74 = .ok (.iload_n 3, 1) := by decide +kernel
theorem dX7_growPot_75 : decode cX7_growPot 75 = .ok (.aload_n 0, 1) := by decide +kernel
theorem dX7_growPot_76 : decode cX7_growPot 76 = .ok (.getfield 15, 3) := by decide +kernel
theorem dX7_growPot_79 : decode cX7_growPot 79 = .ok (.iload_n 1, 1) := by decide +kernel
theorem dX7_growPot_80 : decode cX7_growPot 80 = .ok (.iload_n 3, 1) := by decide +kernel
theorem dX7_growPot_81 : decode cX7_growPot 81 = .ok (.invokevirtual 132, 3) := by decide +kernel
theorem dX7_growPot_84 : decode cX7_growPot 84 = .ok (.iload 4, 2) := by decide +kernel
theorem dX7_growPot_86 : decode cX7_growPot 86 = .ok (.isub, 1) := by decide +kernel
theorem dX7_growPot_87 : decode cX7_growPot 87 = .ok (.invokevirtual 114, 3) := by decide +kernel
theorem dX7_growPot_90 : decode cX7_growPot 90 = .ok (.aload_n 0, 1) := by decide +kernel
theorem dX7_growPot_91 : decode cX7_growPot 91 = .ok (.getfield 15, 3) := by decide +kernel
theorem dX7_growPot_94 : decode cX7_growPot 94 = .ok (.getfield 147, 3) := by decide +kernel
theorem dX7_growPot_97 : decode cX7_growPot 97 = .ok (.iload_n 1, 1) := by decide +kernel
theorem dX7_growPot_98 : decode cX7_growPot 98 = .ok (.bipush 99, 2) := by decide +kernel
theorem dX7_growPot_100 : decode cX7_growPot 100 = .ok (.iload 5, 2) := by decide +kernel
theorem dX7_growPot_102 : decode cX7_growPot 102 = .ok (.invokestatic 48, 3) := by decide +kernel
theorem dX7_growPot_105 : decode cX7_growPot 105 = .ok (.iastore, 1) := by decide +kernel
theorem dX7_growPot_106 : decode cX7_growPot 106 = .ok (.aload_n 0, 1) := by decide +kernel
theorem dX7_growPot_107 : decode cX7_growPot 107 = .ok (.getfield 15, 3) := by decide +kernel
theorem dX7_growPot_110 : decode cX7_growPot 110 = .ok (.getfield 44, 3) := by decide +kernel
theorem dX7_growPot_113 : decode cX7_growPot 113 = .ok (.iload_n 1, 1) := by decide +kernel
theorem dX7_growPot_114 : decode cX7_growPot 114 = .ok (.iconst 0, 1) := by decide +kernel
theorem dX7_growPot_115 : decode cX7_growPot 115 = .ok (.iastore, 1) := by decide +kernel
theorem dX7_growPot_116 : decode cX7_growPot 116 = .ok (.iload 5, 2) := by decide +kernel
theorem dX7_growPot_118 : decode cX7_growPot 118 = .ok (.iconst 1, 1) := by decide +kernel
theorem dX7_growPot_119 : decode cX7_growPot 119 = .ok (.if_icmp .ge 9, 3) := by decide +kernel
theorem dX7_growPot_122 : decode cX7_growPot 122 = .ok (.aload_n 0, 1) := by decide +kernel
theorem dX7_growPot_123 : decode cX7_growPot 123 = .ok (.iload_n 1, 1) := by decide +kernel
theorem dX7_growPot_124 : decode cX7_growPot 124 = .ok (.iconst 2, 1) := by decide +kernel
theorem dX7_growPot_125 : decode cX7_growPot 125 = .ok (.invokevirtual 123, 3) := by decide +kernel
theorem dX7_growPot_128 : decode cX7_growPot 128 = .ok (.return_, 1) := by decide +kernel
theorem dX7_freeze_0 : decode cX7_freeze 0 = .ok (.aload_n 0, 1) := by decide +kernel
theorem dX7_freeze_1 : decode cX7_freeze 1 = .ok (.sipush 1000, 3) := by decide +kernel
theorem dX7_freeze_4 : decode cX7_freeze 4 = .ok (.invokevirtual 153, 3) := by decide +kernel
theorem dX7_freeze_7 : decode cX7_freeze 7 = .ok (.aload_n 0, 1) := by decide +kernel
theorem dX7_freeze_8 : decode cX7_freeze 8 = .ok (.getfield 9, 3) := by decide +kernel
theorem dX7_freeze_11 : decode cX7_freeze 11 = .ok (.getfield 98, 3) := by decide +kernel
theorem dX7_freeze_14 : decode cX7_freeze 14 = .ok (.if_icmp .lt 4, 3) := by decide +kernel
theorem dX7_freeze_17 : decode cX7_freeze 17 = .ok (.return_, 1) := by decide +kernel
theorem dX7_freeze_18 : decode cX7_freeze 18 = .ok (.iconst 0, 1) := by decide +kernel
theorem dX7_freeze_19 : decode cX7_freeze 19 = .ok (.istore_n 1, 1) := by decide +kernel
theorem dX7_freeze_20 : decode cX7_freeze 20 = .ok (.iload_n 1, 1) := by decide +kernel
theorem dX7_freeze_21 : decode cX7_freeze 21 = .ok (.aload_n 0, 1) := by decide +kernel
theorem dX7_freeze_22 : decode cX7_freeze 22 = .ok (.getfield 9, 3) := by decide +kernel
theorem dX7_freeze_25 : decode cX7_freeze 25 = .ok (.getfield 80, 3) := by decide +kernel
theorem dX7_freeze_28 : decode cX7_freeze 28 = .ok (.if_icmp .ge 44, 3) := by decide +kernel
theorem dX7_freeze_31 : decode cX7_freeze 31 = .ok (.aload_n 0, 1) := by decide +kernel
theorem dX7_freeze_32 : decode cX7_freeze 32 = .ok (.getfield 15, 3) := by decide +kernel
theorem dX7_freeze_35 : decode cX7_freeze 35 = .ok (.iload_n 1, 1) := by decide +kernel
theorem dX7_freeze_36 : decode cX7_freeze 36 = .ok (.invokevirtual 86, 3) := by decide +kernel
theorem dX7_freeze_39 : decode cX7_freeze 39 = .ok (.ifCond .eq 27, 3) := by decide +kernel
theorem dX7_freeze_42 : decode cX7_freeze 42 = .ok (.aload_n 0, 1) := by decide +kernel
theorem dX7_freeze_43 : decode cX7_freeze 43 = .ok (.bipush 10, 2) := by decide +kernel
theorem dX7_freeze_45 : decode cX7_freeze 45 = .ok (.invokevirtual 153, 3) := by decide +kernel
theorem dX7_freeze_48 : decode cX7_freeze 48 = .ok (.aload_n 0, 1) := by decide +kernel
theorem dX7_freeze_49 : decode cX7_freeze 49 = .ok (.getfield 15, 3) := by decide +kernel
theorem dX7_freeze_52 : decode cX7_freeze 52 = .ok (.getfield 156, 3) := by decide +kernel
theorem dX7_freeze_55 : decode cX7_freeze 55 = .ok (.iload_n 1, 1) := by decide +kernel
theorem dX7_freeze_56 : decode cX7_freeze 56 = .ok (.iaload, 1) := by decide +kernel
theorem dX7_freeze_57 : decode cX7_freeze 57 = .ok (.if_icmp .ge 9, 3) := by decide +kernel
theorem dX7_freeze_60 : decode cX7_freeze 60 = .ok (.aload_n 0, 1) := by decide +kernel
theorem dX7_freeze_61 : decode cX7_freeze 61 = .ok (.iload_n 1, 1) := by decide +kernel
theorem dX7_freeze_62 : decode cX7_freeze 62 = .ok (.iconst 3, 1) := by decide +kernel
theorem dX7_freeze_63 : decode cX7_freeze 63 = .ok (.invokevirtual 123, 3) := by decide +kernel
theorem dX7_freeze_66 : decode cX7_freeze 66 = .ok (.iinc 1 1, 3) := by decide +kernel
theorem dX7_freeze_69 : decode cX7_freeze 69 = .ok (.goto (-49), 3) := by decide +kernel
theorem dX7_freeze_72 : decode cX7_freeze 72 = .ok (.return_, 1) := by decide +kernel
theorem dX7_fly_0 : decode cX7_fly 0 = .ok (.iconst 0, 1) := by decide +kernel
theorem dX7_fly_1 : decode cX7_fly 1 = .ok (.istore_n 1, 1) := by decide +kernel
theorem dX7_fly_2 : decode cX7_fly 2 = .ok (.iconst 0, 1) := by decide +kernel
theorem dX7_fly_3 : decode cX7_fly 3 = .ok (.istore_n 2, 1) := by decide +kernel
theorem dX7_fly_4 : decode cX7_fly 4 = .ok (.iload_n 2, 1) := by decide +kernel
theorem dX7_fly_5 : decode cX7_fly 5 = .ok (.aload_n 0, 1) := by decide +kernel
theorem dX7_fly_6 : decode cX7_fly 6 = .ok (.getfield 9, 3) := by decide +kernel
theorem dX7_fly_9 : decode cX7_fly 9 = .ok (.getfield 80, 3) := by decide +kernel
theorem dX7_fly_12 : decode cX7_fly 12 = .ok (.if_icmp .ge 29, 3) := by decide +kernel
theorem dX7_fly_15 : decode cX7_fly 15 = .ok (.aload_n 0, 1) := by decide +kernel
theorem dX7_fly_16 : decode cX7_fly 16 = .ok (.getfield 15, 3) := by decide +kernel
theorem dX7_fly_19 : decode cX7_fly 19 = .ok (.getfield 147, 3) := by decide +kernel
theorem dX7_fly_22 : decode cX7_fly 22 = .ok (.iload_n 2, 1) := by decide +kernel
theorem dX7_fly_23 : decode cX7_fly 23 = .ok (.iaload, 1) := by decide +kernel
theorem dX7_fly_24 : decode cX7_fly 24 = .ok (.bipush 50, 2) := by decide +kernel
theorem dX7_fly_26 : decode cX7_fly 26 = .ok (.if_icmp .lt 9, 3) := by decide +kernel
theorem dX7_fly_29 : decode cX7_fly 29 = .ok (.iload_n 1, 1) := by decide +kernel
theorem dX7_fly_30 : decode cX7_fly 30 = .ok (.iconst 1, 1) := by decide +kernel
theorem dX7_fly_31 : decode cX7_fly 31 = .ok (.iload_n 2, 1) := by decide +kernel
theorem dX7_fly_32 : decode cX7_fly 32 = .ok (.ishl, 1) := by decide +kernel
theorem dX7_fly_33 : decode cX7_fly 33 = .ok (.ior, 1) := by decide +kernel
theorem dX7_fly_34 : decode cX7_fly 34 = .ok (.istore_n 1, 1) := by decide +kernel
theorem dX7_fly_35 : decode cX7_fly 35 = .ok (.iinc 2 1, 3) := by decide +kernel
theorem dX7_fly_38 : decode cX7_fly 38 = .ok (.goto (-34), 3) := by decide +kernel
theorem dX7_fly_41 : decode cX7_fly 41 = .ok (.iconst 0, 1) := by decide +kernel
theorem dX7_fly_42 : decode cX7_fly 42 = .ok (.istore_n 2, 1) := by decide +kernel
theorem dX7_fly_43 : decode cX7_fly 43 = .ok (.iload_n 2, 1) := by decide +kernel
theorem dX7_fly_44 : decode cX7_fly 44 = .ok (.aload_n 0, 1) := by decide +kernel
theorem dX7_fly_45 : decode cX7_fly 45 = .ok (.getfield 9, 3) := by decide +kernel
theorem dX7_fly_48 : decode cX7_fly 48 = .ok (.getfield 80, 3) := by decide +kernel
theorem dX7_fly_51 : decode cX7_fly 51 = .ok (.if_icmp .ge 39, 3) := by decide +kernel
theorem dX7_fly_54 : decode cX7_fly 54 = .ok (.iload_n 1, 1) := by decide +kernel
theorem dX7_fly_55 : decode cX7_fly 55 = .ok (.iload_n 2, 1) := by decide +kernel
theorem dX7_fly_56 : decode cX7_fly 56 = .ok (.ishr, 1) := by decide +kernel
theorem dX7_fly_57 : decode cX7_fly 57 = .ok (.iconst 1, 1) := by decide +kernel
theorem dX7_fly_58 : decode cX7_fly 58 = .ok (.iand, 1) := by decide +kernel
theorem dX7_fly_59 : decode cX7_fly 59 = .ok (.ifCond .eq 25, 3) := by decide +kernel
theorem dX7_fly_62 : decode cX7_fly 62 = .ok (.aload_n 0, 1) := by decide +kernel
theorem dX7_fly_63 : decode cX7_fly 63 = .ok (.sipush 1000, 3) := by decide +kernel
theorem dX7_fly_66 : decode cX7_fly 66 = .ok (.invokevirtual 153, 3) := by decide +kernel
theorem dX7_fly_69 : decode cX7_fly 69 = .ok (.aload_n 0, 1) := by decide +kernel
theorem dX7_fly_70 : decode cX7_fly 70 = .ok (.getfield 9, 3) := by decide +kernel
theorem dX7_fly_73 : decode cX7_fly 73 = .ok (.getfield 104, 3) := by decide +kernel
theorem dX7_fly_76 : decode cX7_fly 76 = .ok (.if_icmp .ge 8, 3) := by decide +kernel
theorem dX7_fly_79 : decode cX7_fly 79 = .ok (.aload_n 0, 1) := by decide +kernel
theorem dX7_fly_80 : decode cX7_fly 80 = .ok (.iload_n 2, 1) := by decide +kernel
theorem dX7_fly_81 : decode cX7_fly 81 = .ok (.invokevirtual 159, 3) := by decide +kernel
theorem dX7_fly_84 : decode cX7_fly 84 = .ok (.iinc 2 1, 3) := by decide +kernel
theorem dX7_fly_87 : decode cX7_fly 87 = .ok (.goto (-44), 3) := by decide +kernel
theorem dX7_fly_90 : decode cX7_fly 90 = .ok (.return_, 1) := by decide +kernel
theorem dX7_carry_0 : decode cX7_carry 0 = .ok (.iconst 0, 1) := by decide +kernel
theorem dX7_carry_1 : decode cX7_carry 1 = .ok (.istore_n 2, 1) := by decide +kernel
theorem dX7_carry_2 : decode cX7_carry 2 = .ok (.iload_n 2, 1) := by decide +kernel
theorem dX7_carry_3 : decode cX7_carry 3 = .ok (.aload_n 0, 1) := by decide +kernel
theorem dX7_carry_4 : decode cX7_carry 4 = .ok (.getfield 9, 3) := by decide +kernel
theorem dX7_carry_7 : decode cX7_carry 7 = .ok (.getfield 80, 3) := by decide +kernel
theorem dX7_carry_10 : decode cX7_carry 10 = .ok (.if_icmp .ge 122, 3) := by decide +kernel
theorem dX7_carry_13 : decode cX7_carry 13 = .ok (.aload_n 0, 1) := by decide +kernel
theorem dX7_carry_14 : decode cX7_carry 14 = .ok (.getfield 9, 3) := by decide +kernel
theorem dX7_carry_17 : decode cX7_carry 17 = .ok (.getfield 162, 3) := by decide +kernel
theorem dX7_carry_20 : decode cX7_carry 20 = .ok (.iload_n 1, 1) := by decide +kernel
theorem dX7_carry_21 : decode cX7_carry 21 = .ok (.iaload, 1) := by decide +kernel
theorem dX7_carry_22 : decode cX7_carry 22 = .ok (.iload_n 2, 1) := by decide +kernel
theorem dX7_carry_23 : decode cX7_carry 23 = .ok (.ishr, 1) := by decide +kernel
theorem dX7_carry_24 : decode cX7_carry 24 = .ok (.iconst 1, 1) := by decide +kernel
theorem dX7_carry_25 : decode cX7_carry 25 = .ok (.iand, 1) := by decide +kernel
theorem dX7_carry_26 : decode cX7_carry 26 = .ok (.ifCond .eq 100, 3) := by decide +kernel
theorem dX7_carry_29 : decode cX7_carry 29 = .ok (.aload_n 0, 1) := by decide +kernel
theorem dX7_carry_30 : decode cX7_carry 30 = .ok (.getfield 15, 3) := by decide +kernel
theorem dX7_carry_33 : decode cX7_carry 33 = .ok (.iload_n 2, 1) := by decide +kernel
theorem dX7_carry_34 : decode cX7_carry 34 = .ok (.invokevirtual 86, 3) := by decide +kernel
theorem dX7_carry_37 : decode cX7_carry 37 = .ok (.ifCond .ne 89, 3) := by decide +kernel
theorem dX7_carry_40 : decode cX7_carry 40 = .ok (.aload_n 0, 1) := by decide +kernel
theorem dX7_carry_41 : decode cX7_carry 41 = .ok (.getfield 19, 3) := by decide +kernel
theorem dX7_carry_44 : decode cX7_carry 44 = .ok (.aload_n 0, 1) := by decide +kernel
theorem dX7_carry_45 : decode cX7_carry 45 = .ok (.getfield 9, 3) := by decide +kernel
theorem dX7_carry_48 : decode cX7_carry 48 = .ok (.aload_n 0, 1) := by decide +kernel
theorem dX7_carry_49 : decode cX7_carry 49 = .ok (.getfield 15, 3) := by decide +kernel
theorem dX7_carry_52 : decode cX7_carry 52 = .ok (.iload_n 1, 1) := by decide +kernel
theorem dX7_carry_53 : decode cX7_carry 53 = .ok (.aload_n 0, 1) := by decide +kernel
theorem dX7_carry_54 : decode cX7_carry 54 = .ok (.getfield 15, 3) := by decide +kernel
theorem dX7_carry_57 : decode cX7_carry 57 = .ok (.iload_n 1, 1) := by decide +kernel
theorem dX7_carry_58 : decode cX7_carry 58 = .ok (.invokevirtual 90, 3) := by decide +kernel
theorem dX7_carry_61 : decode cX7_carry 61 = .ok (.invokevirtual 135, 3) := by decide +kernel
theorem dX7_carry_64 : decode cX7_carry 64 = .ok (.aload_n 0, 1) := by decide +kernel
theorem dX7_carry_65 : decode cX7_carry 65 = .ok (.getfield 19, 3) := by decide +kernel
theorem dX7_carry_68 : decode cX7_carry 68 = .ok (.aload_n 0, 1) := by decide +kernel
theorem dX7_carry_69 : decode cX7_carry 69 = .ok (.getfield 9, 3) := by decide +kernel
theorem dX7_carry_72 : decode cX7_carry 72 = .ok (.getfield 141, 3) := by decide +kernel
theorem dX7_carry_75 : decode cX7_carry 75 = .ok (.invokevirtual 164, 3) := by decide +kernel
theorem dX7_carry_78 : decode cX7_carry 78 = .ok (.istore_n 3, 1) := by decide +kernel
theorem dX7_carry_79 : decode cX7_carry 79 = .ok (.iload_n 3, 1) := by decide +kernel
theorem dX7_carry_80 : decode cX7_carry 80 = .ok (.ifCond .le 45, 3) := by decide +kernel
theorem dX7_carry_83 : decode cX7_carry 83 = .ok (.aload_n 0, 1) := by decide +kernel
theorem dX7_carry_84 : decode cX7_carry 84 = .ok (.getfield 15, 3) := by decide +kernel
theorem dX7_carry_87 : decode cX7_carry 87 = .ok (.iload_n 2, 1) := by decide +kernel
theorem dX7_carry_88 : decode cX7_carry 88 = .ok (.aload_n 0, 1) := by decide +kernel
theorem dX7_carry_89 : decode cX7_carry 89 = .ok (.getfield 15, 3) := by decide +kernel
theorem dX7_carry_92 : decode cX7_carry 92 = .ok (.getfield 54, 3) := by decide +kernel
theorem dX7_carry_95 : decode cX7_carry 95 = .ok (.iload_n 1, 1) := by decide +kernel
theorem dX7_carry_96 : decode cX7_carry 96 = .ok (.iaload, 1) := by decide +kernel
theorem dX7_carry_97 : decode cX7_carry 97 = .ok (.iload_n 3, 1) := by decide +kernel
theorem dX7_carry_98 : decode cX7_carry 98 = .ok (.aload_n 0, 1) := by decide +kernel
theorem dX7_carry_99 : decode cX7_carry 99 = .ok (.getfield 15, 3) := by decide +kernel
theorem dX7_carry_102 : decode cX7_carry 102 = .ok (.getfield 156, 3) := by decide +kernel
theorem dX7_carry_105 : decode cX7_carry 105 = .ok (.iload_n 1, 1) := by decide +kernel
theorem dX7_carry_106 : decode cX7_carry 106 = .ok (.iaload, 1) := by decide +kernel
theorem dX7_carry_107 : decode cX7_carry 107 = .ok (.invokevirtual 36, 3) := by decide +kernel
theorem dX7_carry_110 : decode cX7_carry 110 = .ok (.aload_n 0, 1) := by decide +kernel
theorem dX7_carry_111 : decode cX7_carry 111 = .ok (.iconst 4, 1) := by decide +kernel
theorem dX7_carry_112 : decode cX7_carry 112 = .ok (.iload_n 2, 1) := by decide +kernel
theorem dX7_carry_113 : decode cX7_carry 113 = .ok (.aload_n 0, 1) := by decide +kernel
theorem dX7_carry_114 : decode cX7_carry 114 = .ok (.getfield 15, 3) := by decide +kernel
theorem dX7_carry_117 : decode cX7_carry 117 = .ok (.getfield 54, 3) := by decide +kernel
theorem dX7_carry_120 : decode cX7_carry 120 = .ok (.iload_n 1, 1) := by decide +kernel
theorem dX7_carry_121 : decode cX7_carry 121 = .ok (.iaload, 1) := by decide +kernel
theorem dX7_carry_122 : decode cX7_carry 122 = .ok (.invokevirtual 40, 3) := by decide +kernel
theorem dX7_carry_125 : decode cX7_carry 125 = .ok (.return_, 1) := by decide +kernel
theorem dX7_carry_126 : decode cX7_carry 126 = .ok (.iinc 2 1, 3) := by decide +kernel
theorem dX7_carry_129 : decode cX7_carry 129 = .ok (.goto (-127), 3) := by decide +kernel
theorem dX7_carry_132 : decode cX7_carry 132 = .ok (.return_, 1) := by decide +kernel
theorem dX7_inspect_0 : decode cX7_inspect 0 = .ok (.iconst 0, 1) := by decide +kernel
theorem dX7_inspect_1 : decode cX7_inspect 1 = .ok (.istore_n 1, 1) := by decide +kernel
theorem dX7_inspect_2 : decode cX7_inspect 2 = .ok (.iconst 0, 1) := by decide +kernel
theorem dX7_inspect_3 : decode cX7_inspect 3 = .ok (.istore_n 2, 1) := by decide +kernel
theorem dX7_inspect_4 : decode cX7_inspect 4 = .ok (.iload_n 2, 1) := by decide +kernel
theorem dX7_inspect_5 : decode cX7_inspect 5 = .ok (.aload_n 0, 1) := by decide +kernel
theorem dX7_inspect_6 : decode cX7_inspect 6 = .ok (.getfield 9, 3) := by decide +kernel
theorem dX7_inspect_9 : decode cX7_inspect 9 = .ok (.getfield 80, 3) := by decide +kernel
theorem dX7_inspect_12 : decode cX7_inspect 12 = .ok (.if_icmp .ge 39, 3) := by decide +kernel
theorem dX7_inspect_15 : decode cX7_inspect 15 = .ok (.aload_n 0, 1) := by decide +kernel
theorem dX7_inspect_16 : decode cX7_inspect 16 = .ok (.getfield 15, 3) := by decide +kernel
theorem dX7_inspect_19 : decode cX7_inspect 19 = .ok (.iload_n 2, 1) := by decide +kernel
theorem dX7_inspect_20 : decode cX7_inspect 20 = .ok (.invokevirtual 90, 3) := by decide +kernel
theorem dX7_inspect_23 : decode cX7_inspect 23 = .ok (.istore_n 3, 1) := by decide +kernel
theorem dX7_inspect_24 : decode cX7_inspect 24 = .ok (.iload_n 3, 1) := by decide +kernel
theorem dX7_inspect_25 : decode cX7_inspect 25 = .ok (.aload_n 0, 1) := by decide +kernel
theorem dX7_inspect_26 : decode cX7_inspect 26 = .ok (.getfield 9, 3) := by decide +kernel
theorem dX7_inspect_29 : decode cX7_inspect 29 = .ok (.getfield 167, 3) := by decide +kernel
theorem dX7_inspect_32 : decode cX7_inspect 32 = .ok (.if_icmp .le 13, 3) := by decide +kernel
theorem dX7_inspect_35 : decode cX7_inspect 35 = .ok (.aload_n 0, 1) := by decide +kernel
theorem dX7_inspect_36 : decode cX7_inspect 36 = .ok (.iconst 5, 1) := by decide +kernel
theorem dX7_inspect_37 : decode cX7_inspect 37 = .ok (.iload_n 2, 1) := by decide +kernel
theorem dX7_inspect_38 : decode cX7_inspect 38 = .ok (.iload_n 3, 1) := by decide +kernel
theorem dX7_inspect_39 : decode cX7_inspect 39 = .ok (.invokevirtual 40, 3) := by decide +kernel
theorem dX7_inspect_42 : decode cX7_inspect 42 = .ok (.iinc 1 1, 3) := by decide +kernel
theorem dX7_inspect_45 : decode cX7_inspect 45 = .ok (.iinc 2 1, 3) := by decide +kernel
theorem dX7_inspect_48 : decode cX7_inspect 48 = .ok (.goto (-44), 3) := by decide +kernel
theorem dX7_inspect_51 : decode cX7_inspect 51 = .ok (.aload_n 0, 1) := by decide +kernel
theorem dX7_inspect_52 : decode cX7_inspect 52 = .ok (.getfield 15, 3) := by decide +kernel
theorem dX7_inspect_55 : decode cX7_inspect 55 = .ok (.dup, 1) := by decide +kernel
theorem dX7_inspect_56 : decode cX7_inspect 56 = .ok (.getfield 170, 3) := by decide +kernel
theorem dX7_inspect_59 : decode cX7_inspect 59 = .ok (.iload_n 1, 1) := by decide +kernel
theorem dX7_inspect_60 : decode cX7_inspect 60 = .ok (.iadd, 1) := by decide +kernel
theorem dX7_inspect_61 : decode cX7_inspect 61 = .ok (.putfield 170, 3) := by decide +kernel
theorem dX7_inspect_64 : decode cX7_inspect 64 = .ok (.iload_n 1, 1) := by decide +kernel
theorem dX7_inspect_65 : decode cX7_inspect 65 = .ok (.ireturn, 1) := by decide +kernel
theorem dX7_firstOver_0 : decode cX7_firstOver 0 = .ok (.iconst 0, 1) := by decide +kernel
theorem dX7_firstOver_1 : decode cX7_firstOver 1 = .ok (.istore_n 1, 1) := by decide +kernel
theorem dX7_firstOver_2 : decode cX7_firstOver 2 = .ok (.iload_n 1, 1) := by decide +kernel
theorem dX7_firstOver_3 : decode cX7_firstOver 3 = .ok (.aload_n 0, 1) := by decide +kernel
theorem dX7_firstOver_4 : decode cX7_firstOver 4 = .ok (.getfield 9, 3) := by decide +kernel
theorem dX7_firstOver_7 : decode cX7_firstOver 7 = .ok (.getfield 80, 3) := by decide +kernel
theorem dX7_firstOver_10 : decode cX7_firstOver 10 = .ok (.if_icmp .ge 29, 3) := by decide +kernel
theorem dX7_firstOver_13 : decode cX7_firstOver 13 = .ok (.aload_n 0, 1) := by decide +kernel
theorem dX7_firstOver_14 : decode cX7_firstOver 14 = .ok (.getfield 15, 3) := by decide +kernel
theorem dX7_firstOver_17 : decode cX7_firstOver 17 = .ok (.iload_n 1, 1) := by decide +kernel
theorem dX7_firstOver_18 : decode cX7_firstOver 18 = .ok (.invokevirtual 90, 3) := by decide +kernel
theorem dX7_firstOver_21 : decode cX7_firstOver 21 = .ok (.aload_n 0, 1) := by decide +kernel
theorem dX7_firstOver_22 : decode cX7_firstOver 22 = .ok (.getfield 9, 3) := by decide +kernel
theorem dX7_firstOver_25 : decode cX7_firstOver 25 = .ok (.getfield 167, 3) := by decide +kernel
theorem dX7_firstOver_28 : decode cX7_firstOver 28 = .ok (.if_icmp .le 5, 3) := by decide +kernel
theorem dX7_firstOver_31 : decode cX7_firstOver 31 = .ok (.iload_n 1, 1) := by decide +kernel
theorem dX7_firstOver_32 : decode cX7_firstOver 32 = .ok (.ireturn, 1) := by decide +kernel
theorem dX7_firstOver_33 : decode cX7_firstOver 33 = .ok (.iinc 1 1, 3) := by decide +kernel
theorem dX7_firstOver_36 : decode cX7_firstOver 36 = .ok (.goto (-34), 3) := by decide +kernel
theorem dX7_firstOver_39 : decode cX7_firstOver 39 = .ok (.iconst (-1), 1) := by decide +kernel
theorem dX7_firstOver_40 : decode cX7_firstOver 40 = .ok (.ireturn, 1) := by decide +kernel
theorem dX7_bears_0 : decode cX7_bears 0 = .ok (.aload_n 0, 1) := by decide +kernel
theorem dX7_bears_1 : decode cX7_bears 1 = .ok (.invokevirtual 173, 3) := by decide +kernel
theorem dX7_bears_4 : decode cX7_bears 4 = .ok (.aload_n 0, 1) := by decide +kernel
theorem dX7_bears_5 : decode cX7_bears 5 = .ok (.getfield 15, 3) := by decide +kernel
theorem dX7_bears_8 : decode cX7_bears 8 = .ok (.iload_n 1, 1) := by decide +kernel
theorem dX7_bears_9 : decode cX7_bears 9 = .ok (.invokevirtual 90, 3) := by decide +kernel
theorem dX7_bears_12 : decode cX7_bears 12 = .ok (.istore 4, 2) := by decide +kernel
theorem dX7_bears_14 : decode cX7_bears 14 = .ok (.iconst 0, 1) := by decide +kernel
theorem dX7_bears_15 : decode cX7_bears 15 = .ok (.istore 5, 2) := by decide +kernel
theorem dX7_bears_17 : decode cX7_bears 17 = .ok (.iload 5, 2) := by decide +kernel
theorem dX7_bears_19 : decode cX7_bears 19 = .ok (.iload_n 2, 1) := by decide +kernel
theorem dX7_bears_20 : decode cX7_bears 20 = .ok (.if_icmp .ge 46, 3) := by decide +kernel
theorem dX7_bears_23 : decode cX7_bears 23 = .ok (.aload_n 0, 1) := by decide +kernel
theorem dX7_bears_24 : decode cX7_bears 24 = .ok (.getfield 15, 3) := by decide +kernel
theorem dX7_bears_27 : decode cX7_bears 27 = .ok (.iload_n 1, 1) := by decide +kernel
theorem dX7_bears_28 : decode cX7_bears 28 = .ok (.invokevirtual 86, 3) := by decide +kernel
theorem dX7_bears_31 : decode cX7_bears 31 = .ok (.ifCond .eq 35, 3) := by decide +kernel
theorem dX7_bears_34 : decode cX7_bears 34 = .ok (.aload_n 0, 1) := by decide +kernel
theorem dX7_bears_35 : decode cX7_bears 35 = .ok (.iload_n 1, 1) := by decide +kernel
theorem dX7_bears_36 : decode cX7_bears 36 = .ok (.iload_n 3, 1) := by decide +kernel
theorem dX7_bears_37 : decode cX7_bears 37 = .ok (.invokevirtual 120, 3) := by decide +kernel
theorem dX7_bears_40 : decode cX7_bears 40 = .ok (.aload_n 0, 1) := by decide +kernel
theorem dX7_bears_41 : decode cX7_bears 41 = .ok (.iload_n 1, 1) := by decide +kernel
theorem dX7_bears_42 : decode cX7_bears 42 = .ok (.iload 4, 2) := by decide +kernel
theorem dX7_bears_44 : decode cX7_bears 44 = .ok (.invokevirtual 94, 3) := by decide +kernel
theorem dX7_bears_47 : decode cX7_bears 47 = .ok (.aload_n 0, 1) := by decide +kernel
theorem dX7_bears_48 : decode cX7_bears 48 = .ok (.getfield 15, 3) := by decide +kernel
theorem dX7_bears_51 : decode cX7_bears 51 = .ok (.dup, 1) := by decide +kernel
theorem dX7_bears_52 : decode cX7_bears 52 = .ok (.getfield 74, 3) := by decide +kernel
theorem dX7_bears_55 : decode cX7_bears 55 = .ok (.iconst 1, 1) := by decide +kernel
theorem dX7_bears_56 : decode cX7_bears 56 = .ok (.iadd, 1) := by decide +kernel
theorem dX7_bears_57 : decode cX7_bears 57 = .ok (.putfield 74, 3) := by decide +kernel
theorem dX7_bears_60 : decode cX7_bears 60 = .ok (.iinc 5 1, 3) := by decide +kernel
theorem dX7_bears_63 : decode cX7_bears 63 = .ok (.goto (-46), 3) := by decide +kernel
theorem dX7_bears_66 : decode cX7_bears 66 = .ok (.aload_n 0, 1) := by decide +kernel
theorem dX7_bears_67 : decode cX7_bears 67 = .ok (.getfield 15, 3) := by decide +kernel
theorem dX7_bears_70 : decode cX7_bears 70 = .ok (.iload_n 1, 1) := by decide +kernel
theorem dX7_bears_71 : decode cX7_bears 71 = .ok (.invokevirtual 86, 3) := by decide +kernel
theorem dX7_bears_74 : decode cX7_bears 74 = .ok (.ireturn, 1) := by decide +kernel
theorem dX7_draw_0 : decode cX7_draw 0 = .ok (.aload_n 0, 1) := by decide +kernel
theorem dX7_draw_1 : decode cX7_draw 1 = .ok (.getfield 15, 3) := by decide +kernel
theorem dX7_draw_4 : decode cX7_draw 4 = .ok (.ldc 176, 2) := by decide +kernel
theorem dX7_draw_6 : decode cX7_draw 6 = .ok (.aload_n 0, 1) := by decide +kernel
theorem dX7_draw_7 : decode cX7_draw 7 = .ok (.getfield 15, 3) := by decide +kernel
theorem dX7_draw_10 : decode cX7_draw 10 = .ok (.getfield 177, 3) := by decide +kernel
theorem dX7_draw_13 : decode cX7_draw 13 = .ok (.imul, 1) := by decide +kernel
theorem dX7_draw_14 : decode cX7_draw 14 = .ok (.ldc 180, 2) := by decide +kernel
theorem dX7_draw_16 : decode cX7_draw 16 = .ok (.iadd, 1) := by decide +kernel
theorem dX7_draw_17 : decode cX7_draw 17 = .ok (.putfield 177, 3) := by decide +kernel
theorem dX7_draw_20 : decode cX7_draw 20 = .ok (.iload_n 1, 1) := by decide +kernel
theorem dX7_draw_21 : decode cX7_draw 21 = .ok (.ifCond .le 18, 3) := by decide +kernel
theorem dX7_draw_24 : decode cX7_draw 24 = .ok (.aload_n 0, 1) := by decide +kernel
theorem dX7_draw_25 : decode cX7_draw 25 = .ok (.getfield 15, 3) := by decide +kernel
theorem dX7_draw_28 : decode cX7_draw 28 = .ok (.getfield 177, 3) := by decide +kernel
theorem dX7_draw_31 : decode cX7_draw 31 = .ok (.bipush 8, 2) := by decide +kernel
theorem dX7_draw_33 : decode cX7_draw 33 = .ok (.iushr, 1) := by decide +kernel
theorem dX7_draw_34 : decode cX7_draw 34 = .ok (.iload_n 1, 1) := by decide +kernel
theorem dX7_draw_35 : decode cX7_draw 35 = .ok (.irem, 1) := by decide +kernel
theorem dX7_draw_36 : decode cX7_draw 36 = .ok (.goto 4, 3) := by decide +kernel
theorem dX7_draw_39 : decode cX7_draw 39 = .ok (.iconst 0, 1) := by decide +kernel
theorem dX7_draw_40 : decode cX7_draw 40 = .ok (.ireturn, 1) := by decide +kernel
theorem dX7_write_0 : decode cX7_write 0 = .ok (.aload_n 0, 1) := by decide +kernel
theorem dX7_write_1 : decode cX7_write 1 = .ok (.getfield 23, 3) := by decide +kernel
theorem dX7_write_4 : decode cX7_write 4 = .ok (.ifCond .eq 16, 3) := by decide +kernel
theorem dX7_write_7 : decode cX7_write 7 = .ok (.aload_n 0, 1) := by decide +kernel
theorem dX7_write_8 : decode cX7_write 8 = .ok (.getfield 15, 3) := by decide +kernel
theorem dX7_write_11 : decode cX7_write 11 = .ok (.getfield 181, 3) := by decide +kernel
theorem dX7_write_14 : decode cX7_write 14 = .ok (.sipush 150, 3) := by decide +kernel
theorem dX7_write_17 : decode cX7_write 17 = .ok (.if_icmp .lt 4, 3) := by decide +kernel
theorem dX7_write_20 : decode cX7_write 20 = .ok (.return_, 1) := by decide +kernel
theorem dX7_write_21 : decode cX7_write 21 = .ok (.aload_n 0, 1) := by decide +kernel
theorem dX7_write_22 : decode cX7_write 22 = .ok (.getfield 15, 3) := by decide +kernel
theorem dX7_write_25 : decode cX7_write 25 = .ok (.getfield 181, 3) := by decide +kernel
theorem dX7_write_28 : decode cX7_write 28 = .ok (.iconst 4, 1) := by decide +kernel
theorem dX7_write_29 : decode cX7_write 29 = .ok (.imul, 1) := by decide +kernel
theorem dX7_write_30 : decode cX7_write 30 = .ok (.istore 4, 2) := by decide +kernel
theorem dX7_write_32 : decode cX7_write 32 = .ok (.aload_n 0, 1) := by decide +kernel
theorem dX7_write_33 : decode cX7_write 33 = .ok (.getfield 9, 3) := by decide +kernel
theorem dX7_write_36 : decode cX7_write 36 = .ok (.getfield 184, 3) := by decide +kernel
theorem dX7_write_39 : decode cX7_write 39 = .ok (.iload 4, 2) := by decide +kernel
theorem dX7_write_41 : decode cX7_write 41 = .ok (.aload_n 0, 1) := by decide +kernel
theorem dX7_write_42 : decode cX7_write 42 = .ok (.getfield 15, 3) := by decide +kernel
theorem dX7_write_45 : decode cX7_write 45 = .ok (.getfield 74, 3) := by decide +kernel
theorem dX7_write_48 : decode cX7_write 48 = .ok (.iastore, 1) := by decide +kernel
theorem dX7_write_49 : decode cX7_write 49 = .ok (.aload_n 0, 1) := by decide +kernel
theorem dX7_write_50 : decode cX7_write 50 = .ok (.getfield 9, 3) := by decide +kernel
theorem dX7_write_53 : decode cX7_write 53 = .ok (.getfield 184, 3) := by decide +kernel
theorem dX7_write_56 : decode cX7_write 56 = .ok (.iload 4, 2) := by decide +kernel
theorem dX7_write_58 : decode cX7_write 58 = .ok (.iconst 1, 1) := by decide +kernel
theorem dX7_write_59 : decode cX7_write 59 = .ok (.iadd, 1) := by decide +kernel
theorem dX7_write_60 : decode cX7_write 60 = .ok (.iload_n 1, 1) := by decide +kernel
theorem dX7_write_61 : decode cX7_write 61 = .ok (.iastore, 1) := by decide +kernel
theorem dX7_write_62 : decode cX7_write 62 = .ok (.aload_n 0, 1) := by decide +kernel
theorem dX7_write_63 : decode cX7_write 63 = .ok (.getfield 9, 3) := by decide +kernel
theorem dX7_write_66 : decode cX7_write 66 = .ok (.getfield 184, 3) := by decide +kernel
theorem dX7_write_69 : decode cX7_write 69 = .ok (.iload 4, 2) := by decide +kernel
theorem dX7_write_71 : decode cX7_write 71 = .ok (.iconst 2, 1) := by decide +kernel
theorem dX7_write_72 : decode cX7_write 72 = .ok (.iadd, 1) := by decide +kernel
theorem dX7_write_73 : decode cX7_write 73 = .ok (.iload_n 2, 1) := by decide +kernel
theorem dX7_write_74 : decode cX7_write 74 = .ok (.iastore, 1) := by decide +kernel
theorem dX7_write_75 : decode cX7_write 75 = .ok (.aload_n 0, 1) := by decide +kernel
theorem dX7_write_76 : decode cX7_write 76 = .ok (.getfield 9, 3) := by decide +kernel
theorem dX7_write_79 : decode cX7_write 79 = .ok (.getfield 184, 3) := by decide +kernel
theorem dX7_write_82 : decode cX7_write 82 = .ok (.iload 4, 2) := by decide +kernel
theorem dX7_write_84 : decode cX7_write 84 = .ok (.iconst 3, 1) := by decide +kernel
theorem dX7_write_85 : decode cX7_write 85 = .ok (.iadd, 1) := by decide +kernel
theorem dX7_write_86 : decode cX7_write 86 = .ok (.iload_n 3, 1) := by decide +kernel
theorem dX7_write_87 : decode cX7_write 87 = .ok (.iastore, 1) := by decide +kernel
theorem dX7_write_88 : decode cX7_write 88 = .ok (.aload_n 0, 1) := by decide +kernel
theorem dX7_write_89 : decode cX7_write 89 = .ok (.getfield 15, 3) := by decide +kernel
theorem dX7_write_92 : decode cX7_write 92 = .ok (.dup, 1) := by decide +kernel
theorem dX7_write_93 : decode cX7_write 93 = .ok (.getfield 181, 3) := by decide +kernel
theorem dX7_write_96 : decode cX7_write 96 = .ok (.iconst 1, 1) := by decide +kernel
theorem dX7_write_97 : decode cX7_write 97 = .ok (.iadd, 1) := by decide +kernel
theorem dX7_write_98 : decode cX7_write 98 = .ok (.putfield 181, 3) := by decide +kernel
theorem dX7_write_101 : decode cX7_write 101 = .ok (.return_, 1) := by decide +kernel
theorem dX8_init_0 : decode cX8_init 0 = .ok (.aload_n 0, 1) := by decide +kernel
theorem dX8_init_1 : decode cX8_init 1 = .ok (.invokespecial 3, 3) := by decide +kernel
theorem dX8_init_4 : decode cX8_init 4 = .ok (.aload_n 0, 1) := by decide +kernel
theorem dX8_init_5 : decode cX8_init 5 = .ok (.sipush 400, 3) := by decide +kernel
theorem dX8_init_8 : decode cX8_init 8 = .ok (.newarray .byte, 2) := by decide +kernel
theorem dX8_init_10 : decode cX8_init 10 = .ok (.putfield 9, 3) := by decide +kernel
theorem dX8_init_13 : decode cX8_init 13 = .ok (.aload_n 0, 1) := by decide +kernel
theorem dX8_init_14 : decode cX8_init 14 = .ok (.sipush 401, 3) := by decide +kernel
theorem dX8_init_17 : decode cX8_init 17 = .ok (.newarray .int, 2) := by decide +kernel
theorem dX8_init_19 : decode cX8_init 19 = .ok (.putfield 15, 3) := by decide +kernel
theorem dX8_init_22 : decode cX8_init 22 = .ok (.aload_n 0, 1) := by decide +kernel
theorem dX8_init_23 : decode cX8_init 23 = .ok (.sipush 401, 3) := by decide +kernel
theorem dX8_init_26 : decode cX8_init 26 = .ok (.newarray .int, 2) := by decide +kernel
theorem dX8_init_28 : decode cX8_init 28 = .ok (.putfield 19, 3) := by decide +kernel
theorem dX8_init_31 : decode cX8_init 31 = .ok (.aload_n 0, 1) := by decide +kernel
theorem dX8_init_32 : decode cX8_init 32 = .ok (.sipush 401, 3) := by decide +kernel
theorem dX8_init_35 : decode cX8_init 35 = .ok (.newarray .int, 2) := by decide +kernel
theorem dX8_init_37 : decode cX8_init 37 = .ok (.putfield 22, 3) := by decide +kernel
theorem dX8_init_40 : decode cX8_init 40 = .ok (.return_, 1) := by decide +kernel
theorem dX8_add_0 : decode cX8_add 0 = .ok (.bipush 24, 2) := by decide +kernel
theorem dX8_add_2 : decode cX8_add 2 = .ok (.istore_n 2, 1) := by decide +kernel
theorem dX8_add_3 : decode cX8_add 3 = .ok (.iload_n 2, 1) := by decide +kernel
theorem dX8_add_4 : decode cX8_add 4 = .ok (.ifCond .lt 42, 3) := by decide +kernel
theorem dX8_add_7 : decode cX8_add 7 = .ok (.aload_n 0, 1) := by decide +kernel
theorem dX8_add_8 : decode cX8_add 8 = .ok (.getfield 25, 3) := by decide +kernel
theorem dX8_add_11 : decode cX8_add 11 = .ok (.sipush 400, 3) := by decide +kernel
theorem dX8_add_14 : decode cX8_add 14 = .ok (.if_icmp .ge 26, 3) := by decide +kernel
theorem dX8_add_17 : decode cX8_add 17 = .ok (.aload_n 0, 1) := by decide +kernel
theorem dX8_add_18 : decode cX8_add 18 = .ok (.getfield 9, 3) := by decide +kernel
theorem dX8_add_21 : decode cX8_add 21 = .ok (.aload_n 0, 1) := by decide +kernel
theorem dX8_add_22 : decode cX8_add 22 = .ok (.getfield 25, 3) := by decide +kernel
theorem dX8_add_25 : decode cX8_add 25 = .ok (.iload_n 1, 1) := by decide +kernel
theorem dX8_add_26 : decode cX8_add 26 = .ok (.iload_n 2, 1) := by decide +kernel
theorem dX8_add_27 : decode cX8_add 27 = .ok (.ishr, 1) := by decide +kernel
theorem dX8_add_28 : decode cX8_add 28 = .ok (.i2b, 1) := by decide +kernel
theorem dX8_add_29 : decode cX8_add 29 = .ok (.bastore, 1) := by decide +kernel
theorem dX8_add_30 : decode cX8_add 30 = .ok (.aload_n 0, 1) := by decide +kernel
theorem dX8_add_31 : decode cX8_add 31 = .ok (.dup, 1) := by decide +kernel
theorem dX8_add_32 : decode cX8_add 32 = .ok (.getfield 25, 3) := by decide +kernel
theorem dX8_add_35 : decode cX8_add 35 = .ok (.iconst 1, 1) := by decide +kernel
theorem dX8_add_36 : decode cX8_add 36 = .ok (.iadd, 1) := by decide +kernel
theorem dX8_add_37 : decode cX8_add 37 = .ok (.putfield 25, 3) := by decide +kernel
theorem dX8_add_40 : decode cX8_add 40 = .ok (.iinc 2 (-8), 3) := by decide +kernel
theorem dX8_add_43 : decode cX8_add 43 = .ok (.goto (-40), 3) := by decide +kernel
theorem dX8_add_46 : decode cX8_add 46 = .ok (.return_, 1) := by decide +kernel
theorem dX8_cut_0 : decode cX8_cut 0 = .ok (.aload_n 0, 1) := by decide +kernel
theorem dX8_cut_1 : decode cX8_cut 1 = .ok (.iconst 0, 1) := by decide +kernel
theorem dX8_cut_2 : decode cX8_cut 2 = .ok (.putfield 29, 3) := by decide +kernel
theorem dX8_cut_5 : decode cX8_cut 5 = .ok (.iconst 0, 1) := by decide +kernel
theorem dX8_cut_6 : decode cX8_cut 6 = .ok (.istore_n 1, 1) := by decide +kernel
theorem dX8_cut_7 : decode cX8_cut 7 = .ok (.iconst 0, 1) := by decide +kernel
theorem dX8_cut_8 : decode cX8_cut 8 = .ok (.istore_n 2, 1) := by decide +kernel
theorem dX8_cut_9 : decode cX8_cut 9 = .ok (.iload_n 2, 1) := by decide +kernel
theorem dX8_cut_10 : decode cX8_cut 10 = .ok (.sipush 400, 3) := by decide +kernel
theorem dX8_cut_13 : decode cX8_cut 13 = .ok (.if_icmp .ge 128, 3) := by decide +kernel
theorem dX8_cut_16 : decode cX8_cut 16 = .ok (.iload_n 1, 1) := by decide +kernel
theorem dX8_cut_17 : decode cX8_cut 17 = .ok (.aload_n 0, 1) := by decide +kernel
theorem dX8_cut_18 : decode cX8_cut 18 = .ok (.getfield 25, 3) := by decide +kernel
theorem dX8_cut_21 : decode cX8_cut 21 = .ok (.if_icmp .ge 120, 3) := by decide +kernel
theorem dX8_cut_24 : decode cX8_cut 24 = .ok (.aload_n 0, 1) := by decide +kernel
theorem dX8_cut_25 : decode cX8_cut 25 = .ok (.getfield 9, 3) := by decide +kernel
theorem dX8_cut_28 : decode cX8_cut 28 = .ok (.iload_n 1, 1) := by decide +kernel
theorem dX8_cut_29 : decode cX8_cut 29 = .ok (.baload, 1) := by decide +kernel
theorem dX8_cut_30 : decode cX8_cut 30 = .ok (.istore_n 3, 1) := by decide +kernel
theorem dX8_cut_31 : decode cX8_cut 31 = .ok (.iload_n 1, 1) := by decide +kernel
theorem dX8_cut_32 : decode cX8_cut 32 = .ok (.iconst 1, 1) := by decide +kernel
theorem dX8_cut_33 : decode cX8_cut 33 = .ok (.iadd, 1) := by decide +kernel
theorem dX8_cut_34 : decode cX8_cut 34 = .ok (.istore 4, 2) := by decide +kernel
theorem dX8_cut_36 : decode cX8_cut 36 = .ok (.iload_n 3, 1) := by decide +kernel
theorem dX8_cut_37 : decode cX8_cut 37 = .ok (.invokestatic 32, 3) := by decide +kernel
theorem dX8_cut_40 : decode cX8_cut 40 = .ok (.ifCond .eq 26, 3) := by decide +kernel
theorem dX8_cut_43 : decode cX8_cut 43 = .ok (.aload_n 0, 1) := by decide +kernel
theorem dX8_cut_44 : decode cX8_cut 44 = .ok (.iload_n 1, 1) := by decide +kernel
theorem dX8_cut_45 : decode cX8_cut 45 = .ok (.invokevirtual 36, 3) := by decide +kernel
theorem dX8_cut_48 : decode cX8_cut 48 = .ok (.istore 4, 2) := by decide +kernel
theorem dX8_cut_50 : decode cX8_cut 50 = .ok (.aload_n 0, 1) := by decide +kernel
theorem dX8_cut_51 : decode cX8_cut 51 = .ok (.aload_n 0, 1) := by decide +kernel
theorem dX8_cut_52 : decode cX8_cut 52 = .ok (.iload_n 1, 1) := by decide +kernel
theorem dX8_cut_53 : decode cX8_cut 53 = .ok (.iload 4, 2) := by decide +kernel
theorem dX8_cut_55 : decode cX8_cut 55 = .ok (.invokevirtual 40, 3) := by decide +kernel
theorem dX8_cut_58 : decode cX8_cut 58 = .ok (.iconst 0, 1) := by decide +kernel
theorem dX8_cut_59 : decode cX8_cut 59 = .ok (.iload_n 1, 1) := by decide +kernel
theorem dX8_cut_60 : decode cX8_cut 60 = .ok (.invokevirtual 44, 3) := by decide +kernel
theorem dX8_cut_63 : decode cX8_cut 63 = .ok (.goto 69, 3) := by decide +kernel
theorem dX8_cut_66 : decode cX8_cut 66 = .ok (.iload_n 3, 1) := by decide +kernel
theorem dX8_cut_67 : decode cX8_cut 67 = .ok (.invokestatic 48, 3) := by decide +kernel
theorem dX8_cut_70 : decode cX8_cut 70 = .ok (.ifCond .eq 40, 3) := by decide +kernel
theorem dX8_cut_73 : decode cX8_cut 73 = .ok (.aload_n 0, 1) := by decide +kernel
theorem dX8_cut_74 : decode cX8_cut 74 = .ok (.iload_n 1, 1) := by decide +kernel
theorem dX8_cut_75 : decode cX8_cut 75 = .ok (.invokevirtual 51, 3) := by decide +kernel
theorem dX8_cut_78 : decode cX8_cut 78 = .ok (.istore 4, 2) := by decide +kernel
theorem dX8_cut_80 : decode cX8_cut 80 = .ok (.aload_n 0, 1) := by decide +kernel
theorem dX8_cut_81 : decode cX8_cut 81 = .ok (.iload 4, 2) := by decide +kernel
theorem dX8_cut_83 : decode cX8_cut 83 = .ok (.iload_n 1, 1) := by decide +kernel
theorem dX8_cut_84 : decode cX8_cut 84 = .ok (.isub, 1) := by decide +kernel
theorem dX8_cut_85 : decode cX8_cut 85 = .ok (.iconst 4, 1) := by decide +kernel
theorem dX8_cut_86 : decode cX8_cut 86 = .ok (.if_icmp .le 8, 3) := by decide +kernel
theorem dX8_cut_89 : decode cX8_cut 89 = .ok (.bipush 44, 2) := by decide +kernel
theorem dX8_cut_91 : decode cX8_cut 91 = .ok (.goto 5, 3) := by decide +kernel
theorem dX8_cut_94 : decode cX8_cut 94 = .ok (.bipush 42, 2) := by decide +kernel
theorem dX8_cut_96 : decode cX8_cut 96 = .ok (.aload_n 0, 1) := by decide +kernel
theorem dX8_cut_97 : decode cX8_cut 97 = .ok (.iload_n 1, 1) := by decide +kernel
theorem dX8_cut_98 : decode cX8_cut 98 = .ok (.iload 4, 2) := by decide +kernel
theorem dX8_cut_100 : decode cX8_cut 100 = .ok (.invokevirtual 54, 3) := by decide +kernel
theorem dX8_cut_103 : decode cX8_cut 103 = .ok (.iload_n 1, 1) := by decide +kernel
theorem dX8_cut_104 : decode cX8_cut 104 = .ok (.invokevirtual 44, 3) := by decide +kernel
theorem dX8_cut_107 : decode cX8_cut 107 = .ok (.goto 25, 3) := by decide +kernel
theorem dX8_cut_110 : decode cX8_cut 110 = .ok (.iload_n 3, 1) := by decide +kernel
theorem dX8_cut_111 : decode cX8_cut 111 = .ok (.bipush 32, 2) := by decide +kernel
theorem dX8_cut_113 : decode cX8_cut 113 = .ok (.if_icmp .eq 19, 3) := by decide +kernel
theorem dX8_cut_116 : decode cX8_cut 116 = .ok (.iload_n 3, 1) := by decide +kernel
theorem dX8_cut_117 : decode cX8_cut 117 = .ok (.bipush 10, 2) := by decide +kernel
theorem dX8_cut_119 : decode cX8_cut 119 = .ok (.if_icmp .eq 13, 3) := by decide +kernel
theorem dX8_cut_122 : decode cX8_cut 122 = .ok (.aload_n 0, 1) := by decide +kernel
theorem dX8_cut_123 : decode cX8_cut 123 = .ok (.iload_n 3, 1) := by decide +kernel
theorem dX8_cut_124 : decode cX8_cut 124 = .ok (.invokestatic 57, 3) := by decide +kernel
theorem dX8_cut_127 : decode cX8_cut 127 = .ok (.iconst 0, 1) := by decide +kernel
theorem dX8_cut_128 : decode cX8_cut 128 = .ok (.iload_n 1, 1) := by decide +kernel
theorem dX8_cut_129 : decode cX8_cut 129 = .ok (.invokevirtual 44, 3) := by decide +kernel
theorem dX8_cut_132 : decode cX8_cut 132 = .ok (.iload 4, 2) := by decide +kernel
theorem dX8_cut_134 : decode cX8_cut 134 = .ok (.istore_n 1, 1) := by decide +kernel
theorem dX8_cut_135 : decode cX8_cut 135 = .ok (.iinc 2 1, 3) := by decide +kernel
theorem dX8_cut_138 : decode cX8_cut 138 = .ok (.goto (-129), 3) := by decide +kernel
theorem dX8_cut_141 : decode cX8_cut 141 = .ok (.aload_n 0, 1) := by decide +kernel
theorem dX8_cut_142 : decode cX8_cut 142 = .ok (.bipush 43, 2) := by decide +kernel
theorem dX8_cut_144 : decode cX8_cut 144 = .ok (.iconst 0, 1) := by decide +kernel
theorem dX8_cut_145 : decode cX8_cut 145 = .ok (.aload_n 0, 1) := by decide +kernel
theorem dX8_cut_146 : decode cX8_cut 146 = .ok (.getfield 25, 3) := by decide +kernel
theorem dX8_cut_149 : decode cX8_cut 149 = .ok (.invokevirtual 44, 3) := by decide +kernel
theorem dX8_cut_152 : decode cX8_cut 152 = .ok (.return_, 1) := by decide +kernel
theorem dX8_put_0 : decode cX8_put 0 = .ok (.aload_n 0, 1) := by decide +kernel
theorem dX8_put_1 : decode cX8_put 1 = .ok (.getfield 29, 3) := by decide +kernel
theorem dX8_put_4 : decode cX8_put 4 = .ok (.sipush 400, 3) := by decide +kernel
theorem dX8_put_7 : decode cX8_put 7 = .ok (.if_icmp .gt 43, 3) := by decide +kernel
theorem dX8_put_10 : decode cX8_put 10 = .ok (.aload_n 0, 1) := by decide +kernel
theorem dX8_put_11 : decode cX8_put 11 = .ok (.getfield 15, 3) := by decide +kernel
theorem dX8_put_14 : decode cX8_put 14 = .ok (.aload_n 0, 1) := by decide +kernel
theorem dX8_put_15 : decode cX8_put 15 = .ok (.getfield 29, 3) := by decide +kernel
theorem dX8_put_18 : decode cX8_put 18 = .ok (.iload_n 1, 1) := by decide +kernel
theorem dX8_put_19 : decode cX8_put 19 = .ok (.iastore, 1) := by decide +kernel
theorem dX8_put_20 : decode cX8_put 20 = .ok (.aload_n 0, 1) := by decide +kernel
theorem dX8_put_21 : decode cX8_put 21 = .ok (.getfield 19, 3) := by decide +kernel
theorem dX8_put_24 : decode cX8_put 24 = .ok (.aload_n 0, 1) := by decide +kernel
theorem dX8_put_25 : decode cX8_put 25 = .ok (.getfield 29, 3) := by decide +kernel
theorem dX8_put_28 : decode cX8_put 28 = .ok (.iload_n 2, 1) := by decide +kernel
theorem dX8_put_29 : decode cX8_put 29 = .ok (.iastore, 1) := by decide +kernel
theorem dX8_put_30 : decode cX8_put 30 = .ok (.aload_n 0, 1) := by decide +kernel
theorem dX8_put_31 : decode cX8_put 31 = .ok (.getfield 22, 3) := by decide +kernel
theorem dX8_put_34 : decode cX8_put 34 = .ok (.aload_n 0, 1) := by decide +kernel
theorem dX8_put_35 : decode cX8_put 35 = .ok (.getfield 29, 3) := by decide +kernel
theorem dX8_put_38 : decode cX8_put 38 = .ok (.iload_n 3, 1) := by decide +kernel
theorem dX8_put_39 : decode cX8_put 39 = .ok (.iastore, 1) := by decide +kernel
theorem dX8_put_40 : decode cX8_put 40 = .ok (.aload_n 0, 1) := by decide +kernel
theorem dX8_put_41 : decode cX8_put 41 = .ok (.dup, 1) := by decide +kernel
theorem dX8_put_42 : decode cX8_put 42 = .ok (.getfield 29, 3) := by decide +kernel
theorem dX8_put_45 : decode cX8_put 45 = .ok (.iconst 1, 1) := by decide +kernel
theorem dX8_put_46 : decode cX8_put 46 = .ok (.iadd, 1) := by decide +kernel
theorem dX8_put_47 : decode cX8_put 47 = .ok (.putfield 29, 3) := by decide +kernel
theorem dX8_put_50 : decode cX8_put 50 = .ok (.return_, 1) := by decide +kernel
theorem dX8_isLetter_0 : decode cX8_isLetter 0 = .ok (.iload_n 0, 1) := by decide +kernel
theorem dX8_isLetter_1 : decode cX8_isLetter 1 = .ok (.bipush 97, 2) := by decide +kernel
theorem dX8_isLetter_3 : decode cX8_isLetter 3 = .ok (.if_icmp .lt 9, 3) := by decide +kernel
theorem dX8_isLetter_6 : decode cX8_isLetter 6 = .ok (.iload_n 0, 1) := by decide +kernel
theorem dX8_isLetter_7 : decode cX8_isLetter 7 = .ok (.bipush 122, 2) := by decide +kernel
theorem dX8_isLetter_9 : decode cX8_isLetter 9 = .ok (.if_icmp .le 15, 3) := by decide +kernel
theorem dX8_isLetter_12 : decode cX8_isLetter 12 = .ok (.iload_n 0, 1) := by decide +kernel
theorem dX8_isLetter_13 : decode cX8_isLetter 13 = .ok (.bipush 65, 2) := by decide +kernel
theorem dX8_isLetter_15 : decode cX8_isLetter 15 = .ok (.if_icmp .lt 13, 3) := by decide +kernel
theorem dX8_isLetter_18 : decode cX8_isLetter 18 = .ok (.iload_n 0, 1) := by decide +kernel
theorem dX8_isLetter_19 : decode cX8_isLetter 19 = .ok (.bipush 90, 2) := by decide +kernel
theorem dX8_isLetter_21 : decode cX8_isLetter 21 = .ok (.if_icmp .gt 7, 3) := by decide +kernel
theorem dX8_isLetter_24 : decode cX8_isLetter 24 = .ok (.iconst 1, 1) := by decide +kernel
theorem dX8_isLetter_25 : decode cX8_isLetter 25 = .ok (.goto 4, 3) := by decide +kernel
theorem dX8_isLetter_28 : decode cX8_isLetter 28 = .ok (.iconst 0, 1) := by decide +kernel
theorem dX8_isLetter_29 : decode cX8_isLetter 29 = .ok (.ireturn, 1) := by decide +kernel
theorem dX8_isDigit_0 : decode cX8_isDigit 0 = .ok (.iload_n 0, 1) := by decide +kernel
theorem dX8_isDigit_1 : decode cX8_isDigit 1 = .ok (.bipush 48, 2) := by decide +kernel
theorem dX8_isDigit_3 : decode cX8_isDigit 3 = .ok (.if_icmp .lt 13, 3) := by decide +kernel
theorem dX8_isDigit_6 : decode cX8_isDigit 6 = .ok (.iload_n 0, 1) := by decide +kernel
theorem dX8_isDigit_7 : decode cX8_isDigit 7 = .ok (.bipush 57, 2) := by decide +kernel
theorem dX8_isDigit_9 : decode cX8_isDigit 9 = .ok (.if_icmp .gt 7, 3) := by decide +kernel
theorem dX8_isDigit_12 : decode cX8_isDigit 12 = .ok (.iconst 1, 1) := by decide +kernel
theorem dX8_isDigit_13 : decode cX8_isDigit 13 = .ok (.goto 4, 3) := by decide +kernel
theorem dX8_isDigit_16 : decode cX8_isDigit 16 = .ok (.iconst 0, 1) := by decide +kernel
theorem dX8_isDigit_17 : decode cX8_isDigit 17 = .ok (.ireturn, 1) := by decide +kernel
theorem dX8_lettersEnd_0 : decode cX8_lettersEnd 0 = .ok (.iload_n 1, 1) := by decide +kernel
theorem dX8_lettersEnd_1 : decode cX8_lettersEnd 1 = .ok (.istore_n 2, 1) := by decide +kernel
theorem dX8_lettersEnd_2 : decode cX8_lettersEnd 2 = .ok (.iload_n 2, 1) := by decide +kernel
theorem dX8_lettersEnd_3 : decode cX8_lettersEnd 3 = .ok (.aload_n 0, 1) := by decide +kernel
theorem dX8_lettersEnd_4 : decode cX8_lettersEnd 4 = .ok (.getfield 25, 3) := by decide +kernel
theorem dX8_lettersEnd_7 : decode cX8_lettersEnd 7 = .ok (.if_icmp .ge 21, 3) := by decide +kernel
theorem dX8_lettersEnd_10 : decode cX8_lettersEnd 10 = .ok (.aload_n 0, 1) := by decide +kernel
theorem dX8_lettersEnd_11 : decode cX8_lettersEnd 11 = .ok (.getfield 9, 3) := by decide +kernel
theorem dX8_lettersEnd_14 : decode cX8_lettersEnd 14 = .ok (.iload_n 2, 1) := by decide +kernel
theorem dX8_lettersEnd_15 : decode cX8_lettersEnd 15 = .ok (.baload, 1) := by decide +kernel
theorem dX8_lettersEnd_16 : decode cX8_lettersEnd 16 = .ok (.invokestatic 32, 3) := by decide +kernel
theorem dX8_lettersEnd_19 : decode cX8_lettersEnd 19 = .ok (.ifCond .eq 9, 3) := by decide +kernel
theorem dX8_lettersEnd_22 : decode cX8_lettersEnd 22 = .ok (.iinc 2 1, 3) := by decide +kernel
theorem dX8_lettersEnd_25 : decode cX8_lettersEnd 25 = .ok (.goto (-23), 3) := by decide +kernel
theorem dX8_lettersEnd_28 : decode cX8_lettersEnd 28 = .ok (.iload_n 2, 1) := by decide +kernel
theorem dX8_lettersEnd_29 : decode cX8_lettersEnd 29 = .ok (.ireturn, 1) := by decide +kernel
theorem dX8_digitsEnd_0 : decode cX8_digitsEnd 0 = .ok (.iload_n 1, 1) := by decide +kernel
theorem dX8_digitsEnd_1 : decode cX8_digitsEnd 1 = .ok (.istore_n 2, 1) := by decide +kernel
theorem dX8_digitsEnd_2 : decode cX8_digitsEnd 2 = .ok (.iload_n 2, 1) := by decide +kernel
theorem dX8_digitsEnd_3 : decode cX8_digitsEnd 3 = .ok (.aload_n 0, 1) := by decide +kernel
theorem dX8_digitsEnd_4 : decode cX8_digitsEnd 4 = .ok (.getfield 25, 3) := by decide +kernel
theorem dX8_digitsEnd_7 : decode cX8_digitsEnd 7 = .ok (.if_icmp .ge 21, 3) := by decide +kernel
theorem dX8_digitsEnd_10 : decode cX8_digitsEnd 10 = .ok (.aload_n 0, 1) := by decide +kernel
theorem dX8_digitsEnd_11 : decode cX8_digitsEnd 11 = .ok (.getfield 9, 3) := by decide +kernel
theorem dX8_digitsEnd_14 : decode cX8_digitsEnd 14 = .ok (.iload_n 2, 1) := by decide +kernel
theorem dX8_digitsEnd_15 : decode cX8_digitsEnd 15 = .ok (.baload, 1) := by decide +kernel
theorem dX8_digitsEnd_16 : decode cX8_digitsEnd 16 = .ok (.invokestatic 48, 3) := by decide +kernel
theorem dX8_digitsEnd_19 : decode cX8_digitsEnd 19 = .ok (.ifCond .eq 9, 3) := by decide +kernel
theorem dX8_digitsEnd_22 : decode cX8_digitsEnd 22 = .ok (.iinc 2 1, 3) := by decide +kernel
theorem dX8_digitsEnd_25 : decode cX8_digitsEnd 25 = .ok (.goto (-23), 3) := by decide +kernel
theorem dX8_digitsEnd_28 : decode cX8_digitsEnd 28 = .ok (.iload_n 2, 1) := by decide +kernel
theorem dX8_digitsEnd_29 : decode cX8_digitsEnd 29 = .ok (.ireturn, 1) := by decide +kernel
theorem dX8_numberOf_0 : decode cX8_numberOf 0 = .ok (.iconst 0, 1) := by decide +kernel
theorem dX8_numberOf_1 : decode cX8_numberOf 1 = .ok (.istore_n 3, 1) := by decide +kernel
theorem dX8_numberOf_2 : decode cX8_numberOf 2 = .ok (.iload_n 1, 1) := by decide +kernel
theorem dX8_numberOf_3 : decode cX8_numberOf 3 = .ok (.istore 4, 2) := by decide +kernel
theorem dX8_numberOf_5 : decode cX8_numberOf 5 = .ok (.iload 4, 2) := by decide +kernel
theorem dX8_numberOf_7 : decode cX8_numberOf 7 = .ok (.iload_n 2, 1) := by decide +kernel
theorem dX8_numberOf_8 : decode cX8_numberOf 8 = .ok (.if_icmp .ge 25, 3) := by decide +kernel
theorem dX8_numberOf_11 : decode cX8_numberOf 11 = .ok (.iload_n 3, 1) := by decide +kernel
theorem dX8_numberOf_12 : decode cX8_numberOf 12 = .ok (.bipush 10, 2) := by decide +kernel
theorem dX8_numberOf_14 : decode cX8_numberOf 14 = .ok (.imul, 1) := by decide +kernel
theorem dX8_numberOf_15 : decode cX8_numberOf 15 = .ok (.aload_n 0, 1) := by decide +kernel
theorem dX8_numberOf_16 : decode cX8_numberOf 16 = .ok (.getfield 9, 3) := by decide +kernel
theorem dX8_numberOf_19 : decode cX8_numberOf 19 = .ok (.iload 4, 2) := by decide +kernel
theorem dX8_numberOf_21 : decode cX8_numberOf 21 = .ok (.baload, 1) := by decide +kernel
theorem dX8_numberOf_22 : decode cX8_numberOf 22 = .ok (.iadd, 1) := by decide +kernel
theorem dX8_numberOf_23 : decode cX8_numberOf 23 = .ok (.bipush 48, 2) := by decide +kernel
theorem dX8_numberOf_25 : decode cX8_numberOf 25 = .ok (.isub, 1) := by decide +kernel
theorem dX8_numberOf_26 : decode cX8_numberOf 26 = .ok (.istore_n 3, 1) := by decide +kernel
theorem dX8_numberOf_27 : decode cX8_numberOf 27 = .ok (.iinc 4 1, 3) := by decide +kernel
theorem dX8_numberOf_30 : decode cX8_numberOf 30 = .ok (.goto (-25), 3) := by decide +kernel
theorem dX8_numberOf_33 : decode cX8_numberOf 33 = .ok (.iload_n 3, 1) := by decide +kernel
theorem dX8_numberOf_34 : decode cX8_numberOf 34 = .ok (.ireturn, 1) := by decide +kernel
theorem dX8_signOf_0 : decode cX8_signOf 0 = .ok (.iload_n 0, 1) := by decide +kernel
theorem dX8_signOf_1 : decode cX8_signOf 1 = .ok (.ifCond .le 13, 3) := by decide +kernel
theorem dX8_signOf_4 : decode cX8_signOf 4 = .ok (.ldc 60, 2) := by decide +kernel
theorem dX8_signOf_6 : decode cX8_signOf 6 = .ok (.iload_n 0, 1) := by decide +kernel
theorem dX8_signOf_7 : decode cX8_signOf 7 = .ok (.i2c, 1) := by decide +kernel
theorem dX8_signOf_8 : decode cX8_signOf 8 = .ok (.invokevirtual 62, 3) := by decide +kernel
theorem dX8_signOf_11 : decode cX8_signOf 11 = .ok (.goto 4, 3) := by decide +kernel
theorem dX8_signOf_14 : decode cX8_signOf 14 = .ok (.iconst (-1), 1) := by decide +kernel
theorem dX8_signOf_15 : decode cX8_signOf 15 = .ok (.istore_n 1, 1) := by decide +kernel
theorem dX8_signOf_16 : decode cX8_signOf 16 = .ok (.iload_n 1, 1) := by decide +kernel
theorem dX8_signOf_17 : decode cX8_signOf 17 = .ok (.ifCond .ge 8, 3) := by decide +kernel
theorem dX8_signOf_20 : decode cX8_signOf 20 = .ok (.bipush 44, 2) := by decide +kernel
theorem dX8_signOf_22 : decode cX8_signOf 22 = .ok (.goto 7, 3) := by decide +kernel
theorem dX8_signOf_25 : decode cX8_signOf 25 = .ok (.bipush 32, 2) := by decide +kernel
theorem dX8_signOf_27 : decode cX8_signOf 27 = .ok (.iload_n 1, 1) := by decide +kernel
theorem dX8_signOf_28 : decode cX8_signOf 28 = .ok (.iadd, 1) := by decide +kernel
theorem dX8_signOf_29 : decode cX8_signOf 29 = .ok (.ireturn, 1) := by decide +kernel
theorem dX8_wordOf_0 : decode cX8_wordOf 0 = .ok (.iconst 0, 1) := by decide +kernel
theorem dX8_wordOf_1 : decode cX8_wordOf 1 = .ok (.istore_n 3, 1) := by decide +kernel
theorem dX8_wordOf_2 : decode cX8_wordOf 2 = .ok (.iconst 0, 1) := by decide +kernel
theorem dX8_wordOf_3 : decode cX8_wordOf 3 = .ok (.istore 4, 2) := by decide +kernel
theorem dX8_wordOf_5 : decode cX8_wordOf 5 = .ok (.iconst 0, 1) := by decide +kernel
theorem dX8_wordOf_6 : decode cX8_wordOf 6 = .ok (.istore 5, 2) := by decide +kernel
theorem dX8_wordOf_8 : decode cX8_wordOf 8 = .ok (.iload 5, 2) := by decide +kernel
theorem dX8_wordOf_10 : decode cX8_wordOf 10 = .ok (.ldc 67, 2) := by decide +kernel
theorem dX8_wordOf_12 : decode cX8_wordOf 12 = .ok (.invokevirtual 69, 3) := by decide +kernel
theorem dX8_wordOf_15 : decode cX8_wordOf 15 = .ok (.if_icmp .ge 80, 3) := by decide +kernel
theorem dX8_wordOf_18 : decode cX8_wordOf 18 = .ok (.ldc 67, 2) := by decide +kernel
theorem dX8_wordOf_20 : decode cX8_wordOf 20 = .ok (.iload 5, 2) := by decide +kernel
theorem dX8_wordOf_22 : decode cX8_wordOf 22 = .ok (.invokevirtual 72, 3) := by decide +kernel
theorem dX8_wordOf_25 : decode cX8_wordOf 25 = .ok (.istore 6, 2) := by decide +kernel
theorem dX8_wordOf_27 : decode cX8_wordOf 27 = .ok (.iload 6, 2) := by decide +kernel
theorem dX8_wordOf_29 : decode cX8_wordOf 29 = .ok (.bipush 32, 2) := by decide +kernel
theorem dX8_wordOf_31 : decode cX8_wordOf 31 = .ok (.if_icmp .ne 22, 3) := by decide +kernel
theorem dX8_wordOf_34 : decode cX8_wordOf 34 = .ok (.iload 4, 2) := by decide +kernel
theorem dX8_wordOf_36 : decode cX8_wordOf 36 = .ok (.iload_n 2, 1) := by decide +kernel
theorem dX8_wordOf_37 : decode cX8_wordOf 37 = .ok (.iload_n 1, 1) := by decide +kernel
theorem dX8_wordOf_38 : decode cX8_wordOf 38 = .ok (.isub, 1) := by decide +kernel
theorem dX8_wordOf_39 : decode cX8_wordOf 39 = .ok (.if_icmp .ne 5, 3) := by decide +kernel
theorem dX8_wordOf_42 : decode cX8_wordOf 42 = .ok (.iload_n 3, 1) := by decide +kernel
theorem dX8_wordOf_43 : decode cX8_wordOf 43 = .ok (.ireturn, 1) := by decide +kernel
theorem dX8_wordOf_44 : decode cX8_wordOf 44 = .ok (.iinc 3 1, 3) := by decide +kernel
theorem dX8_wordOf_47 : decode cX8_wordOf 47 = .ok (.iconst 0, 1) := by decide +kernel
theorem dX8_wordOf_48 : decode cX8_wordOf 48 = .ok (.istore 4, 2) := by decide +kernel
theorem dX8_wordOf_50 : decode cX8_wordOf 50 = .ok (.goto 39, 3) := by decide +kernel
theorem dX8_wordOf_53 : decode cX8_wordOf 53 = .ok (.iload 4, 2) := by decide +kernel
theorem dX8_wordOf_55 : decode cX8_wordOf 55 = .ok (.ifCond .lt 31, 3) := by decide +kernel
theorem dX8_wordOf_58 : decode cX8_wordOf 58 = .ok (.iload_n 1, 1) := by decide +kernel
theorem dX8_wordOf_59 : decode cX8_wordOf 59 = .ok (.iload 4, 2) := by decide +kernel
theorem dX8_wordOf_61 : decode cX8_wordOf 61 = .ok (.iadd, 1) := by decide +kernel
theorem dX8_wordOf_62 : decode cX8_wordOf 62 = .ok (.iload_n 2, 1) := by decide +kernel
theorem dX8_wordOf_63 : decode cX8_wordOf 63 = .ok (.if_icmp .ge 23, 3) := by decide +kernel
theorem dX8_wordOf_66 : decode cX8_wordOf 66 = .ok (.aload_n 0, 1) := by decide +kernel
theorem dX8_wordOf_67 : decode cX8_wordOf 67 = .ok (.getfield 9, 3) := by decide +kernel
theorem dX8_wordOf_70 : decode cX8_wordOf 70 = .ok (.iload_n 1, 1) := by decide +kernel
theorem dX8_wordOf_71 : decode cX8_wordOf 71 = .ok (.iload 4, 2) := by decide +kernel
theorem dX8_wordOf_73 : decode cX8_wordOf 73 = .ok (.iadd, 1) := by decide +kernel
theorem dX8_wordOf_74 : decode cX8_wordOf 74 = .ok (.baload, 1) := by decide +kernel
theorem dX8_wordOf_75 : decode cX8_wordOf 75 = .ok (.iload 6, 2) := by decide +kernel
theorem dX8_wordOf_77 : decode cX8_wordOf 77 = .ok (.if_icmp .ne 9, 3) := by decide +kernel
theorem dX8_wordOf_80 : decode cX8_wordOf 80 = .ok (.iinc 4 1, 3) := by decide +kernel
theorem dX8_wordOf_83 : decode cX8_wordOf 83 = .ok (.goto 6, 3) := by decide +kernel
theorem dX8_wordOf_86 : decode cX8_wordOf 86 = .ok (.iconst (-1), 1) := by decide +kernel
theorem dX8_wordOf_87 : decode cX8_wordOf 87 = .ok (.istore 4, 2) := by decide +kernel
theorem dX8_wordOf_89 : decode cX8_wordOf 89 = .ok (.iinc 5 1, 3) := by decide +kernel
theorem dX8_wordOf_92 : decode cX8_wordOf 92 = .ok (.goto (-84), 3) := by decide +kernel
theorem dX8_wordOf_95 : decode cX8_wordOf 95 = .ok (.bipush 44, 2) := by decide +kernel
theorem dX8_wordOf_97 : decode cX8_wordOf 97 = .ok (.ireturn, 1) := by decide +kernel
theorem dX9_init_0 : decode cX9_init 0 = .ok (.aload_n 0, 1) := by decide +kernel
theorem dX9_init_1 : decode cX9_init 1 = .ok (.invokespecial 1, 3) := by decide +kernel
theorem dX9_init_4 : decode cX9_init 4 = .ok (.aload_n 0, 1) := by decide +kernel
theorem dX9_init_5 : decode cX9_init 5 = .ok (.iload_n 1, 1) := by decide +kernel
theorem dX9_init_6 : decode cX9_init 6 = .ok (.iconst 5, 1) := by decide +kernel
theorem dX9_init_7 : decode cX9_init 7 = .ok (.imul, 1) := by decide +kernel
theorem dX9_init_8 : decode cX9_init 8 = .ok (.newarray .int, 2) := by decide +kernel
theorem dX9_init_10 : decode cX9_init 10 = .ok (.putfield 9, 3) := by decide +kernel
theorem dX9_init_13 : decode cX9_init 13 = .ok (.aload_n 0, 1) := by decide +kernel
theorem dX9_init_14 : decode cX9_init 14 = .ok (.iload_n 2, 1) := by decide +kernel
theorem dX9_init_15 : decode cX9_init 15 = .ok (.newarray .int, 2) := by decide +kernel
theorem dX9_init_17 : decode cX9_init 17 = .ok (.putfield 13, 3) := by decide +kernel
theorem dX9_init_20 : decode cX9_init 20 = .ok (.return_, 1) := by decide +kernel
theorem dX9_clear_0 : decode cX9_clear 0 = .ok (.aload_n 0, 1) := by decide +kernel
theorem dX9_clear_1 : decode cX9_clear 1 = .ok (.iconst 0, 1) := by decide +kernel
theorem dX9_clear_2 : decode cX9_clear 2 = .ok (.putfield 16, 3) := by decide +kernel
theorem dX9_clear_5 : decode cX9_clear 5 = .ok (.aload_n 0, 1) := by decide +kernel
theorem dX9_clear_6 : decode cX9_clear 6 = .ok (.iconst 0, 1) := by decide +kernel
theorem dX9_clear_7 : decode cX9_clear 7 = .ok (.putfield 20, 3) := by decide +kernel
theorem dX9_clear_10 : decode cX9_clear 10 = .ok (.return_, 1) := by decide +kernel
theorem dX9_copyFrom_0 : decode cX9_copyFrom 0 = .ok (.aload_n 1, 1) := by decide +kernel
theorem dX9_copyFrom_1 : decode cX9_copyFrom 1 = .ok (.getfield 9, 3) := by decide +kernel
theorem dX9_copyFrom_4 : decode cX9_copyFrom 4 = .ok (.iconst 0, 1) := by decide +kernel
theorem dX9_copyFrom_5 : decode cX9_copyFrom 5 = .ok (.aload_n 0, 1) := by decide +kernel
theorem dX9_copyFrom_6 : decode cX9_copyFrom 6 = .ok (.getfield 9, 3) := by decide +kernel
theorem dX9_copyFrom_9 : decode cX9_copyFrom 9 = .ok (.iconst 0, 1) := by decide +kernel
theorem dX9_copyFrom_10 : decode cX9_copyFrom 10 = .ok (.aload_n 0, 1) := by decide +kernel
theorem dX9_copyFrom_11 : decode cX9_copyFrom 11 = .ok (.getfield 9, 3) := by decide +kernel
theorem dX9_copyFrom_14 : decode cX9_copyFrom 14 = .ok (.arraylength, 1) := by decide +kernel
theorem dX9_copyFrom_15 : decode cX9_copyFrom 15 = .ok (.aload_n 1, 1) := by decide +kernel
theorem dX9_copyFrom_16 : decode cX9_copyFrom 16 = .ok (.getfield 16, 3) := by decide +kernel
theorem dX9_copyFrom_19 : decode cX9_copyFrom 19 = .ok (.iconst 5, 1) := by decide +kernel
theorem dX9_copyFrom_20 : decode cX9_copyFrom 20 = .ok (.imul, 1) := by decide +kernel
theorem dX9_copyFrom_21 : decode cX9_copyFrom 21 = .ok (.invokestatic 23, 3) := by decide +kernel
theorem dX9_copyFrom_24 : decode cX9_copyFrom 24 = .ok (.invokestatic 29, 3) := by decide +kernel
theorem dX9_copyFrom_27 : decode cX9_copyFrom 27 = .ok (.aload_n 1, 1) := by decide +kernel
theorem dX9_copyFrom_28 : decode cX9_copyFrom 28 = .ok (.getfield 13, 3) := by decide +kernel
theorem dX9_copyFrom_31 : decode cX9_copyFrom 31 = .ok (.iconst 0, 1) := by decide +kernel
theorem dX9_copyFrom_32 : decode cX9_copyFrom 32 = .ok (.aload_n 0, 1) := by decide +kernel
theorem dX9_copyFrom_33 : decode cX9_copyFrom 33 = .ok (.getfield 13, 3) := by decide +kernel
theorem dX9_copyFrom_36 : decode cX9_copyFrom 36 = .ok (.iconst 0, 1) := by decide +kernel
theorem dX9_copyFrom_37 : decode cX9_copyFrom 37 = .ok (.aload_n 0, 1) := by decide +kernel
theorem dX9_copyFrom_38 : decode cX9_copyFrom 38 = .ok (.getfield 13, 3) := by decide +kernel
theorem dX9_copyFrom_41 : decode cX9_copyFrom 41 = .ok (.arraylength, 1) := by decide +kernel
theorem dX9_copyFrom_42 : decode cX9_copyFrom 42 = .ok (.aload_n 1, 1) := by decide +kernel
theorem dX9_copyFrom_43 : decode cX9_copyFrom 43 = .ok (.getfield 20, 3) := by decide +kernel
theorem dX9_copyFrom_46 : decode cX9_copyFrom 46 = .ok (.invokestatic 23, 3) := by decide +kernel
theorem dX9_copyFrom_49 : decode cX9_copyFrom 49 = .ok (.invokestatic 29, 3) := by decide +kernel
theorem dX9_copyFrom_52 : decode cX9_copyFrom 52 = .ok (.aload_n 0, 1) := by decide +kernel
theorem dX9_copyFrom_53 : decode cX9_copyFrom 53 = .ok (.aload_n 1, 1) := by decide +kernel
theorem dX9_copyFrom_54 : decode cX9_copyFrom 54 = .ok (.getfield 16, 3) := by decide +kernel
theorem dX9_copyFrom_57 : decode cX9_copyFrom 57 = .ok (.putfield 16, 3) := by decide +kernel
theorem dX9_copyFrom_60 : decode cX9_copyFrom 60 = .ok (.aload_n 0, 1) := by decide +kernel
theorem dX9_copyFrom_61 : decode cX9_copyFrom 61 = .ok (.aload_n 1, 1) := by decide +kernel
theorem dX9_copyFrom_62 : decode cX9_copyFrom 62 = .ok (.getfield 20, 3) := by decide +kernel
theorem dX9_copyFrom_65 : decode cX9_copyFrom 65 = .ok (.putfield 20, 3) := by decide +kernel
theorem dX9_copyFrom_68 : decode cX9_copyFrom 68 = .ok (.return_, 1) := by decide +kernel
theorem dX9_at_0 : decode cX9_at 0 = .ok (.aload_n 0, 1) := by decide +kernel
theorem dX9_at_1 : decode cX9_at 1 = .ok (.getfield 9, 3) := by decide +kernel
theorem dX9_at_4 : decode cX9_at 4 = .ok (.iload_n 1, 1) := by decide +kernel
theorem dX9_at_5 : decode cX9_at 5 = .ok (.iconst 5, 1) := by decide +kernel
theorem dX9_at_6 : decode cX9_at 6 = .ok (.imul, 1) := by decide +kernel
theorem dX9_at_7 : decode cX9_at 7 = .ok (.iload_n 2, 1) := by decide +kernel
theorem dX9_at_8 : decode cX9_at 8 = .ok (.iadd, 1) := by decide +kernel
theorem dX9_at_9 : decode cX9_at 9 = .ok (.iaload, 1) := by decide +kernel
theorem dX9_at_10 : decode cX9_at 10 = .ok (.ireturn, 1) := by decide +kernel
theorem dX9_add_0 : decode cX9_add 0 = .ok (.aload_n 0, 1) := by decide +kernel
theorem dX9_add_1 : decode cX9_add 1 = .ok (.getfield 16, 3) := by decide +kernel
theorem dX9_add_4 : decode cX9_add 4 = .ok (.iconst 5, 1) := by decide +kernel
theorem dX9_add_5 : decode cX9_add 5 = .ok (.imul, 1) := by decide +kernel
theorem dX9_add_6 : decode cX9_add 6 = .ok (.istore 6, 2) := by decide +kernel
theorem dX9_add_8 : decode cX9_add 8 = .ok (.iload 6, 2) := by decide +kernel
theorem dX9_add_10 : decode cX9_add 10 = .ok (.iconst 5, 1) := by decide +kernel
theorem dX9_add_11 : decode cX9_add 11 = .ok (.iadd, 1) := by decide +kernel
theorem dX9_add_12 : decode cX9_add 12 = .ok (.aload_n 0, 1) := by decide +kernel
theorem dX9_add_13 : decode cX9_add 13 = .ok (.getfield 9, 3) := by decide +kernel
theorem dX9_add_16 : decode cX9_add 16 = .ok (.arraylength, 1) := by decide +kernel
theorem dX9_add_17 : decode cX9_add 17 = .ok (.if_icmp .le 4, 3) := by decide +kernel
theorem dX9_add_20 : decode cX9_add 20 = .ok (.return_, 1) := by decide +kernel
theorem dX9_add_21 : decode cX9_add 21 = .ok (.aload_n 0, 1) := by decide +kernel
theorem dX9_add_22 : decode cX9_add 22 = .ok (.getfield 9, 3) := by decide +kernel
theorem dX9_add_25 : decode cX9_add 25 = .ok (.iload 6, 2) := by decide +kernel
theorem dX9_add_27 : decode cX9_add 27 = .ok (.iload_n 1, 1) := by decide +kernel
theorem dX9_add_28 : decode cX9_add 28 = .ok (.iastore, 1) := by decide +kernel
theorem dX9_add_29 : decode cX9_add 29 = .ok (.aload_n 0, 1) := by decide +kernel
theorem dX9_add_30 : decode cX9_add 30 = .ok (.getfield 9, 3) := by decide +kernel
theorem dX9_add_33 : decode cX9_add 33 = .ok (.iload 6, 2) := by decide +kernel
theorem dX9_add_35 : decode cX9_add 35 = .ok (.iconst 1, 1) := by decide +kernel
theorem dX9_add_36 : decode cX9_add 36 = .ok (.iadd, 1) := by decide +kernel
theorem dX9_add_37 : decode cX9_add 37 = .ok (.iload_n 2, 1) := by decide +kernel
theorem dX9_add_38 : decode cX9_add 38 = .ok (.iastore, 1) := by decide +kernel
theorem dX9_add_39 : decode cX9_add 39 = .ok (.aload_n 0, 1) := by decide +kernel
theorem dX9_add_40 : decode cX9_add 40 = .ok (.getfield 9, 3) := by decide +kernel
theorem dX9_add_43 : decode cX9_add 43 = .ok (.iload 6, 2) := by decide +kernel
theorem dX9_add_45 : decode cX9_add 45 = .ok (.iconst 2, 1) := by decide +kernel
theorem dX9_add_46 : decode cX9_add 46 = .ok (.iadd, 1) := by decide +kernel
theorem dX9_add_47 : decode cX9_add 47 = .ok (.iload_n 3, 1) := by decide +kernel
theorem dX9_add_48 : decode cX9_add 48 = .ok (.iastore, 1) := by decide +kernel
theorem dX9_add_49 : decode cX9_add 49 = .ok (.aload_n 0, 1) := by decide +kernel
theorem dX9_add_50 : decode cX9_add 50 = .ok (.getfield 9, 3) := by decide +kernel
theorem dX9_add_53 : decode cX9_add 53 = .ok (.iload 6, 2) := by decide +kernel
theorem dX9_add_55 : decode cX9_add 55 = .ok (.iconst 3, 1) := by decide +kernel
theorem dX9_add_56 : decode cX9_add 56 = .ok (.iadd, 1) := by decide +kernel
theorem dX9_add_57 : decode cX9_add 57 = .ok (.iload 4, 2) := by decide +kernel
theorem dX9_add_59 : decode cX9_add 59 = .ok (.iastore, 1) := by decide +kernel
theorem dX9_add_60 : decode cX9_add 60 = .ok (.aload_n 0, 1) := by decide +kernel
theorem dX9_add_61 : decode cX9_add 61 = .ok (.getfield 9, 3) := by decide +kernel
theorem dX9_add_64 : decode cX9_add 64 = .ok (.iload 6, 2) := by decide +kernel
theorem dX9_add_66 : decode cX9_add 66 = .ok (.iconst 4, 1) := by decide +kernel
theorem dX9_add_67 : decode cX9_add 67 = .ok (.iadd, 1) := by decide +kernel
theorem dX9_add_68 : decode cX9_add 68 = .ok (.iload 5, 2) := by decide +kernel
theorem dX9_add_70 : decode cX9_add 70 = .ok (.iastore, 1) := by decide +kernel
theorem dX9_add_71 : decode cX9_add 71 = .ok (.aload_n 0, 1) := by decide +kernel
theorem dX9_add_72 : decode cX9_add 72 = .ok (.dup, 1) := by decide +kernel
theorem dX9_add_73 : decode cX9_add 73 = .ok (.getfield 16, 3) := by decide +kernel
theorem dX9_add_76 : decode cX9_add 76 = .ok (.iconst 1, 1) := by decide +kernel
theorem dX9_add_77 : decode cX9_add 77 = .ok (.iadd, 1) := by decide +kernel
theorem dX9_add_78 : decode cX9_add 78 = .ok (.putfield 16, 3) := by decide +kernel
theorem dX9_add_81 : decode cX9_add 81 = .ok (.return_, 1) := by decide +kernel
theorem dX9_emit_0 : decode cX9_emit 0 = .ok (.aload_n 0, 1) := by decide +kernel
theorem dX9_emit_1 : decode cX9_emit 1 = .ok (.getfield 20, 3) := by decide +kernel
theorem dX9_emit_4 : decode cX9_emit 4 = .ok (.aload_n 0, 1) := by decide +kernel
theorem dX9_emit_5 : decode cX9_emit 5 = .ok (.getfield 13, 3) := by decide +kernel
theorem dX9_emit_8 : decode cX9_emit 8 = .ok (.arraylength, 1) := by decide +kernel
theorem dX9_emit_9 : decode cX9_emit 9 = .ok (.if_icmp .ge 23, 3) := by decide +kernel
theorem dX9_emit_12 : decode cX9_emit 12 = .ok (.aload_n 0, 1) := by decide +kernel
theorem dX9_emit_13 : decode cX9_emit 13 = .ok (.getfield 13, 3) := by decide +kernel
theorem dX9_emit_16 : decode cX9_emit 16 = .ok (.aload_n 0, 1) := by decide +kernel
theorem dX9_emit_17 : decode cX9_emit 17 = .ok (.getfield 20, 3) := by decide +kernel
theorem dX9_emit_20 : decode cX9_emit 20 = .ok (.iload_n 1, 1) := by decide +kernel
theorem dX9_emit_21 : decode cX9_emit 21 = .ok (.iastore, 1) := by decide +kernel
theorem dX9_emit_22 : decode cX9_emit 22 = .ok (.aload_n 0, 1) := by decide +kernel
theorem dX9_emit_23 : decode cX9_emit 23 = .ok (.dup, 1) := by decide +kernel
theorem dX9_emit_24 : decode cX9_emit 24 = .ok (.getfield 20, 3) := by decide +kernel
theorem dX9_emit_27 : decode cX9_emit 27 = .ok (.iconst 1, 1) := by decide +kernel
theorem dX9_emit_28 : decode cX9_emit 28 = .ok (.iadd, 1) := by decide +kernel
theorem dX9_emit_29 : decode cX9_emit 29 = .ok (.putfield 20, 3) := by decide +kernel
theorem dX9_emit_32 : decode cX9_emit 32 = .ok (.return_, 1) := by decide +kernel
theorem dX10_init_0 : decode cX10_init 0 = .ok (.aload_n 0, 1) := by decide +kernel
theorem dX10_init_1 : decode cX10_init 1 = .ok (.invokespecial 1, 3) := by decide +kernel
theorem dX10_init_4 : decode cX10_init 4 = .ok (.aload_n 0, 1) := by decide +kernel
theorem dX10_init_5 : decode cX10_init 5 = .ok (.bipush 6, 2) := by decide +kernel
theorem dX10_init_7 : decode cX10_init 7 = .ok (.anewarray 9, 3) := by decide +kernel
theorem dX10_init_10 : decode cX10_init 10 = .ok (.putfield 11, 3) := by decide +kernel
theorem dX10_init_13 : decode cX10_init 13 = .ok (.iconst 0, 1) := by decide +kernel
theorem dX10_init_14 : decode cX10_init 14 = .ok (.istore_n 1, 1) := by decide +kernel
theorem dX10_init_15 : decode cX10_init 15 = .ok (.iload_n 1, 1) := by decide +kernel
theorem dX10_init_16 : decode cX10_init 16 = .ok (.bipush 6, 2) := by decide +kernel
theorem dX10_init_18 : decode cX10_init 18 = .ok (.if_icmp .ge 22, 3) := by decide +kernel
theorem dX10_init_21 : decode cX10_init 21 = .ok (.aload_n 0, 1) := by decide +kernel
theorem dX10_init_22 : decode cX10_init 22 = .ok (.getfield 11, 3) := by decide +kernel
theorem dX10_init_25 : decode cX10_init 25 = .ok (.iload_n 1, 1) := by decide +kernel
theorem dX10_init_26 : decode cX10_init 26 = .ok (.new 9, 3) := by decide +kernel
theorem dX10_init_29 : decode cX10_init 29 = .ok (.dup, 1) := by decide +kernel
theorem dX10_init_30 : decode cX10_init 30 = .ok (.invokespecial 15, 3) := by decide +kernel
theorem dX10_init_33 : decode cX10_init 33 = .ok (.aastore, 1) := by decide +kernel
theorem dX10_init_34 : decode cX10_init 34 = .ok (.iinc 1 1, 3) := by decide +kernel
theorem dX10_init_37 : decode cX10_init 37 = .ok (.goto (-22), 3) := by decide +kernel
theorem dX10_init_40 : decode cX10_init 40 = .ok (.return_, 1) := by decide +kernel
theorem dX10_keep_0 : decode cX10_keep 0 = .ok (.aload_n 0, 1) := by decide +kernel
theorem dX10_keep_1 : decode cX10_keep 1 = .ok (.getfield 11, 3) := by decide +kernel
theorem dX10_keep_4 : decode cX10_keep 4 = .ok (.aload_n 0, 1) := by decide +kernel
theorem dX10_keep_5 : decode cX10_keep 5 = .ok (.getfield 16, 3) := by decide +kernel
theorem dX10_keep_8 : decode cX10_keep 8 = .ok (.aaload, 1) := by decide +kernel
theorem dX10_keep_9 : decode cX10_keep 9 = .ok (.aload_n 1, 1) := by decide +kernel
theorem dX10_keep_10 : decode cX10_keep 10 = .ok (.invokevirtual 20, 3) := by decide +kernel
theorem dX10_keep_13 : decode cX10_keep 13 = .ok (.aload_n 0, 1) := by decide +kernel
theorem dX10_keep_14 : decode cX10_keep 14 = .ok (.aload_n 0, 1) := by decide +kernel
theorem dX10_keep_15 : decode cX10_keep 15 = .ok (.getfield 16, 3) := by decide +kernel
theorem dX10_keep_18 : decode cX10_keep 18 = .ok (.iconst 1, 1) := by decide +kernel
theorem dX10_keep_19 : decode cX10_keep 19 = .ok (.iadd, 1) := by decide +kernel
theorem dX10_keep_20 : decode cX10_keep 20 = .ok (.bipush 6, 2) := by decide +kernel
theorem dX10_keep_22 : decode cX10_keep 22 = .ok (.if_icmp .ge 12, 3) := by decide +kernel
theorem dX10_keep_25 : decode cX10_keep 25 = .ok (.aload_n 0, 1) := by decide +kernel
theorem dX10_keep_26 : decode cX10_keep 26 = .ok (.getfield 16, 3) := by decide +kernel
theorem dX10_keep_29 : decode cX10_keep 29 = .ok (.iconst 1, 1) := by decide +kernel
theorem dX10_keep_30 : decode cX10_keep 30 = .ok (.iadd, 1) := by decide +kernel
theorem dX10_keep_31 : decode cX10_keep 31 = .ok (.goto 4, 3) := by decide +kernel
theorem dX10_keep_34 : decode cX10_keep 34 = .ok (.iconst 0, 1) := by decide +kernel
theorem dX10_keep_35 : decode cX10_keep 35 = .ok (.putfield 16, 3) := by decide +kernel
theorem dX10_keep_38 : decode cX10_keep 38 = .ok (.aload_n 0, 1) := by decide +kernel
theorem dX10_keep_39 : decode cX10_keep 39 = .ok (.bipush 6, 2) := by decide +kernel
theorem dX10_keep_41 : decode cX10_keep 41 = .ok (.aload_n 0, 1) := by decide +kernel
theorem dX10_keep_42 : decode cX10_keep 42 = .ok (.getfield 24, 3) := by decide +kernel
theorem dX10_keep_45 : decode cX10_keep 45 = .ok (.iconst 1, 1) := by decide +kernel
theorem dX10_keep_46 : decode cX10_keep 46 = .ok (.iadd, 1) := by decide +kernel
theorem dX10_keep_47 : decode cX10_keep 47 = .ok (.invokestatic 27, 3) := by decide +kernel
theorem dX10_keep_50 : decode cX10_keep 50 = .ok (.putfield 24, 3) := by decide +kernel
theorem dX10_keep_53 : decode cX10_keep 53 = .ok (.return_, 1) := by decide +kernel
theorem dX10_goBack_0 : decode cX10_goBack 0 = .ok (.aload_n 0, 1) := by decide +kernel
theorem dX10_goBack_1 : decode cX10_goBack 1 = .ok (.getfield 24, 3) := by decide +kernel
theorem dX10_goBack_4 : decode cX10_goBack 4 = .ok (.ifCond .ne 5, 3) := by decide +kernel
theorem dX10_goBack_7 : decode cX10_goBack 7 = .ok (.iconst 0, 1) := by decide +kernel
theorem dX10_goBack_8 : decode cX10_goBack 8 = .ok (.ireturn, 1) := by decide +kernel
theorem dX10_goBack_9 : decode cX10_goBack 9 = .ok (.aload_n 0, 1) := by decide +kernel
theorem dX10_goBack_10 : decode cX10_goBack 10 = .ok (.aload_n 0, 1) := by decide +kernel
theorem dX10_goBack_11 : decode cX10_goBack 11 = .ok (.getfield 16, 3) := by decide +kernel
theorem dX10_goBack_14 : decode cX10_goBack 14 = .ok (.ifCond .le 12, 3) := by decide +kernel
theorem dX10_goBack_17 : decode cX10_goBack 17 = .ok (.aload_n 0, 1) := by decide +kernel
theorem dX10_goBack_18 : decode cX10_goBack 18 = .ok (.getfield 16, 3) := by decide +kernel
theorem dX10_goBack_21 : decode cX10_goBack 21 = .ok (.iconst 1, 1) := by decide +kernel
theorem dX10_goBack_22 : decode cX10_goBack 22 = .ok (.isub, 1) := by decide +kernel
theorem dX10_goBack_23 : decode cX10_goBack 23 = .ok (.goto 4, 3) := by decide +kernel
theorem dX10_goBack_26 : decode cX10_goBack 26 = .ok (.iconst 5, 1) := by decide +kernel
theorem dX10_goBack_27 : decode cX10_goBack 27 = .ok (.putfield 16, 3) := by decide +kernel
theorem dX10_goBack_30 : decode cX10_goBack 30 = .ok (.aload_n 0, 1) := by decide +kernel
theorem dX10_goBack_31 : decode cX10_goBack 31 = .ok (.dup, 1) := by decide +kernel
theorem dX10_goBack_32 : decode cX10_goBack 32 = .ok (.getfield 24, 3) := by decide +kernel
theorem dX10_goBack_35 : decode cX10_goBack 35 = .ok (.iconst 1, 1) := by decide +kernel
theorem dX10_goBack_36 : decode cX10_goBack 36 = .ok (.isub, 1) := by decide +kernel
theorem dX10_goBack_37 : decode cX10_goBack 37 = .ok (.putfield 24, 3) := by decide +kernel
theorem dX10_goBack_40 : decode cX10_goBack 40 = .ok (.aload_n 1, 1) := by decide +kernel
theorem dX10_goBack_41 : decode cX10_goBack 41 = .ok (.aload_n 0, 1) := by decide +kernel
theorem dX10_goBack_42 : decode cX10_goBack 42 = .ok (.getfield 11, 3) := by decide +kernel
theorem dX10_goBack_45 : decode cX10_goBack 45 = .ok (.aload_n 0, 1) := by decide +kernel
theorem dX10_goBack_46 : decode cX10_goBack 46 = .ok (.getfield 16, 3) := by decide +kernel
theorem dX10_goBack_49 : decode cX10_goBack 49 = .ok (.aaload, 1) := by decide +kernel
theorem dX10_goBack_50 : decode cX10_goBack 50 = .ok (.invokevirtual 20, 3) := by decide +kernel
theorem dX10_goBack_53 : decode cX10_goBack 53 = .ok (.iconst 1, 1) := by decide +kernel
theorem dX10_goBack_54 : decode cX10_goBack 54 = .ok (.ireturn, 1) := by decide +kernel
theorem dX10_forget_0 : decode cX10_forget 0 = .ok (.aload_n 0, 1) := by decide +kernel
theorem dX10_forget_1 : decode cX10_forget 1 = .ok (.iconst 0, 1) := by decide +kernel
theorem dX10_forget_2 : decode cX10_forget 2 = .ok (.putfield 24, 3) := by decide +kernel
theorem dX10_forget_5 : decode cX10_forget 5 = .ok (.return_, 1) := by decide +kernel
theorem dX11_init_0 : decode cX11_init 0 = .ok (.aload_n 0, 1) := by decide +kernel
theorem dX11_init_1 : decode cX11_init 1 = .ok (.invokespecial 1, 3) := by decide +kernel
theorem dX11_init_4 : decode cX11_init 4 = .ok (.aload_n 0, 1) := by decide +kernel
theorem dX11_init_5 : decode cX11_init 5 = .ok (.new 7, 3) := by decide +kernel
theorem dX11_init_8 : decode cX11_init 8 = .ok (.dup, 1) := by decide +kernel
theorem dX11_init_9 : decode cX11_init 9 = .ok (.invokespecial 9, 3) := by decide +kernel
theorem dX11_init_12 : decode cX11_init 12 = .ok (.putfield 10, 3) := by decide +kernel
theorem dX11_init_15 : decode cX11_init 15 = .ok (.aload_n 0, 1) := by decide +kernel
theorem dX11_init_16 : decode cX11_init 16 = .ok (.new 7, 3) := by decide +kernel
theorem dX11_init_19 : decode cX11_init 19 = .ok (.dup, 1) := by decide +kernel
theorem dX11_init_20 : decode cX11_init 20 = .ok (.invokespecial 9, 3) := by decide +kernel
theorem dX11_init_23 : decode cX11_init 23 = .ok (.putfield 16, 3) := by decide +kernel
theorem dX11_init_26 : decode cX11_init 26 = .ok (.aload_n 0, 1) := by decide +kernel
theorem dX11_init_27 : decode cX11_init 27 = .ok (.iconst 0, 1) := by decide +kernel
theorem dX11_init_28 : decode cX11_init 28 = .ok (.putfield 19, 3) := by decide +kernel
theorem dX11_init_31 : decode cX11_init 31 = .ok (.aload_n 0, 1) := by decide +kernel
theorem dX11_init_32 : decode cX11_init 32 = .ok (.new 23, 3) := by decide +kernel
theorem dX11_init_35 : decode cX11_init 35 = .ok (.dup, 1) := by decide +kernel
theorem dX11_init_36 : decode cX11_init 36 = .ok (.invokespecial 25, 3) := by decide +kernel
theorem dX11_init_39 : decode cX11_init 39 = .ok (.putfield 26, 3) := by decide +kernel
theorem dX11_init_42 : decode cX11_init 42 = .ok (.aload_n 0, 1) := by decide +kernel
theorem dX11_init_43 : decode cX11_init 43 = .ok (.new 30, 3) := by decide +kernel
theorem dX11_init_46 : decode cX11_init 46 = .ok (.dup, 1) := by decide +kernel
theorem dX11_init_47 : decode cX11_init 47 = .ok (.aload_n 0, 1) := by decide +kernel
theorem dX11_init_48 : decode cX11_init 48 = .ok (.getfield 10, 3) := by decide +kernel
theorem dX11_init_51 : decode cX11_init 51 = .ok (.aload_n 0, 1) := by decide +kernel
theorem dX11_init_52 : decode cX11_init 52 = .ok (.getfield 10, 3) := by decide +kernel
theorem dX11_init_55 : decode cX11_init 55 = .ok (.getfield 32, 3) := by decide +kernel
theorem dX11_init_58 : decode cX11_init 58 = .ok (.aload_n 0, 1) := by decide +kernel
theorem dX11_init_59 : decode cX11_init 59 = .ok (.getfield 26, 3) := by decide +kernel
theorem dX11_init_62 : decode cX11_init 62 = .ok (.iconst 1, 1) := by decide +kernel
theorem dX11_init_63 : decode cX11_init 63 = .ok (.invokespecial 36, 3) := by decide +kernel
theorem dX11_init_66 : decode cX11_init 66 = .ok (.putfield 39, 3) := by decide +kernel
theorem dX11_init_69 : decode cX11_init 69 = .ok (.aload_n 0, 1) := by decide +kernel
theorem dX11_init_70 : decode cX11_init 70 = .ok (.new 30, 3) := by decide +kernel
theorem dX11_init_73 : decode cX11_init 73 = .ok (.dup, 1) := by decide +kernel
theorem dX11_init_74 : decode cX11_init 74 = .ok (.aload_n 0, 1) := by decide +kernel
theorem dX11_init_75 : decode cX11_init 75 = .ok (.getfield 10, 3) := by decide +kernel
theorem dX11_init_78 : decode cX11_init 78 = .ok (.new 43, 3) := by decide +kernel
theorem dX11_init_81 : decode cX11_init 81 = .ok (.dup, 1) := by decide +kernel
theorem dX11_init_82 : decode cX11_init 82 = .ok (.invokespecial 45, 3) := by decide +kernel
theorem dX11_init_85 : decode cX11_init 85 = .ok (.aload_n 0, 1) := by decide +kernel
theorem dX11_init_86 : decode cX11_init 86 = .ok (.getfield 26, 3) := by decide +kernel
theorem dX11_init_89 : decode cX11_init 89 = .ok (.iconst 0, 1) := by decide +kernel
theorem dX11_init_90 : decode cX11_init 90 = .ok (.invokespecial 36, 3) := by decide +kernel
theorem dX11_init_93 : decode cX11_init 93 = .ok (.putfield 46, 3) := by decide +kernel
theorem dX11_init_96 : decode cX11_init 96 = .ok (.aload_n 0, 1) := by decide +kernel
theorem dX11_init_97 : decode cX11_init 97 = .ok (.new 49, 3) := by decide +kernel
theorem dX11_init_100 : decode cX11_init 100 = .ok (.dup, 1) := by decide +kernel
theorem dX11_init_101 : decode cX11_init 101 = .ok (.invokespecial 51, 3) := by decide +kernel
theorem dX11_init_104 : decode cX11_init 104 = .ok (.putfield 52, 3) := by decide +kernel
theorem dX11_init_107 : decode cX11_init 107 = .ok (.aload_n 0, 1) := by decide +kernel
theorem dX11_init_108 : decode cX11_init 108 = .ok (.new 56, 3) := by decide +kernel
theorem dX11_init_111 : decode cX11_init 111 = .ok (.dup, 1) := by decide +kernel
theorem dX11_init_112 : decode cX11_init 112 = .ok (.invokespecial 58, 3) := by decide +kernel
theorem dX11_init_115 : decode cX11_init 115 = .ok (.putfield 59, 3) := by decide +kernel
theorem dX11_init_118 : decode cX11_init 118 = .ok (.aload_n 0, 1) := by decide +kernel
theorem dX11_init_119 : decode cX11_init 119 = .ok (.new 63, 3) := by decide +kernel
theorem dX11_init_122 : decode cX11_init 122 = .ok (.dup, 1) := by decide +kernel
theorem dX11_init_123 : decode cX11_init 123 = .ok (.aload_n 0, 1) := by decide +kernel
theorem dX11_init_124 : decode cX11_init 124 = .ok (.getfield 59, 3) := by decide +kernel
theorem dX11_init_127 : decode cX11_init 127 = .ok (.invokespecial 65, 3) := by decide +kernel
theorem dX11_init_130 : decode cX11_init 130 = .ok (.putfield 68, 3) := by decide +kernel
theorem dX11_init_133 : decode cX11_init 133 = .ok (.aload_n 0, 1) := by decide +kernel
theorem dX11_init_134 : decode cX11_init 134 = .ok (.new 72, 3) := by decide +kernel
theorem dX11_init_137 : decode cX11_init 137 = .ok (.dup, 1) := by decide +kernel
theorem dX11_init_138 : decode cX11_init 138 = .ok (.invokespecial 74, 3) := by decide +kernel
theorem dX11_init_141 : decode cX11_init 141 = .ok (.putfield 75, 3) := by decide +kernel
theorem dX11_init_144 : decode cX11_init 144 = .ok (.aload_n 0, 1) := by decide +kernel
theorem dX11_init_145 : decode cX11_init 145 = .ok (.new 79, 3) := by decide +kernel
theorem dX11_init_148 : decode cX11_init 148 = .ok (.dup, 1) := by decide +kernel
theorem dX11_init_149 : decode cX11_init 149 = .ok (.invokespecial 81, 3) := by decide +kernel
theorem dX11_init_152 : decode cX11_init 152 = .ok (.putfield 82, 3) := by decide +kernel
theorem dX11_init_155 : decode cX11_init 155 = .ok (.aload_n 0, 1) := by decide +kernel
theorem dX11_init_156 : decode cX11_init 156 = .ok (.new 86, 3) := by decide +kernel
theorem dX11_init_159 : decode cX11_init 159 = .ok (.dup, 1) := by decide +kernel
theorem dX11_init_160 : decode cX11_init 160 = .ok (.invokespecial 88, 3) := by decide +kernel
theorem dX11_init_163 : decode cX11_init 163 = .ok (.putfield 89, 3) := by decide +kernel
theorem dX11_init_166 : decode cX11_init 166 = .ok (.return_, 1) := by decide +kernel
theorem dX11_state_0 : decode cX11_state 0 = .ok (.aload_n 0, 1) := by decide +kernel
theorem dX11_state_1 : decode cX11_state 1 = .ok (.getfield 10, 3) := by decide +kernel
theorem dX11_state_4 : decode cX11_state 4 = .ok (.getfield 32, 3) := by decide +kernel
theorem dX11_state_7 : decode cX11_state 7 = .ok (.getfield 93, 3) := by decide +kernel
theorem dX11_state_10 : decode cX11_state 10 = .ok (.istore_n 2, 1) := by decide +kernel
theorem dX11_state_11 : decode cX11_state 11 = .ok (.aload_n 0, 1) := by decide +kernel
theorem dX11_state_12 : decode cX11_state 12 = .ok (.getfield 52, 3) := by decide +kernel
theorem dX11_state_15 : decode cX11_state 15 = .ok (.invokevirtual 97, 3) := by decide +kernel
theorem dX11_state_18 : decode cX11_state 18 = .ok (.aload_n 0, 1) := by decide +kernel
theorem dX11_state_19 : decode cX11_state 19 = .ok (.getfield 10, 3) := by decide +kernel
theorem dX11_state_22 : decode cX11_state 22 = .ok (.getfield 32, 3) := by decide +kernel
theorem dX11_state_25 : decode cX11_state 25 = .ok (.iload_n 1, 1) := by decide +kernel
theorem dX11_state_26 : decode cX11_state 26 = .ok (.putfield 93, 3) := by decide +kernel
theorem dX11_state_29 : decode cX11_state 29 = .ok (.iload_n 2, 1) := by decide +kernel
theorem dX11_state_30 : decode cX11_state 30 = .ok (.ireturn, 1) := by decide +kernel
theorem dX11_house_0 : decode cX11_house 0 = .ok (.aload_n 0, 1) := by decide +kernel
theorem dX11_house_1 : decode cX11_house 1 = .ok (.getfield 10, 3) := by decide +kernel
theorem dX11_house_4 : decode cX11_house 4 = .ok (.getfield 100, 3) := by decide +kernel
theorem dX11_house_7 : decode cX11_house 7 = .ok (.bipush 8, 2) := by decide +kernel
theorem dX11_house_9 : decode cX11_house 9 = .ok (.if_icmp .lt 5, 3) := by decide +kernel
theorem dX11_house_12 : decode cX11_house 12 = .ok (.iconst (-1), 1) := by decide +kernel
theorem dX11_house_13 : decode cX11_house 13 = .ok (.ireturn, 1) := by decide +kernel
theorem dX11_house_14 : decode cX11_house 14 = .ok (.aload_n 0, 1) := by decide +kernel
theorem dX11_house_15 : decode cX11_house 15 = .ok (.getfield 52, 3) := by decide +kernel
theorem dX11_house_18 : decode cX11_house 18 = .ok (.invokevirtual 97, 3) := by decide +kernel
theorem dX11_house_21 : decode cX11_house 21 = .ok (.aload_n 0, 1) := by decide +kernel
theorem dX11_house_22 : decode cX11_house 22 = .ok (.getfield 10, 3) := by decide +kernel
theorem dX11_house_25 : decode cX11_house 25 = .ok (.dup, 1) := by decide +kernel
theorem dX11_house_26 : decode cX11_house 26 = .ok (.getfield 100, 3) := by decide +kernel
theorem dX11_house_29 : decode cX11_house 29 = .ok (.iconst 1, 1) := by decide +kernel
theorem dX11_house_30 : decode cX11_house 30 = .ok (.iadd, 1) := by decide +kernel
theorem dX11_house_31 : decode cX11_house 31 = .ok (.putfield 100, 3) := by decide +kernel
theorem dX11_house_34 : decode cX11_house 34 = .ok (.aload_n 0, 1) := by decide +kernel
theorem dX11_house_35 : decode cX11_house 35 = .ok (.getfield 10, 3) := by decide +kernel
theorem dX11_house_38 : decode cX11_house 38 = .ok (.getfield 100, 3) := by decide +kernel
theorem dX11_house_41 : decode cX11_house 41 = .ok (.iconst 1, 1) := by decide +kernel
theorem dX11_house_42 : decode cX11_house 42 = .ok (.isub, 1) := by decide +kernel
theorem dX11_house_43 : decode cX11_house 43 = .ok (.ireturn, 1) := by decide +kernel
theorem dX11_set_0 : decode cX11_set 0 = .ok (.iload_n 1, 1) := by decide +kernel
theorem dX11_set_1 : decode cX11_set 1 = .ok (.ifCond .lt 32, 3) := by decide +kernel
theorem dX11_set_4 : decode cX11_set 4 = .ok (.iload_n 1, 1) := by decide +kernel
theorem dX11_set_5 : decode cX11_set 5 = .ok (.iconst 3, 1) := by decide +kernel
theorem dX11_set_6 : decode cX11_set 6 = .ok (.if_icmp .gt 27, 3) := by decide +kernel
theorem dX11_set_9 : decode cX11_set 9 = .ok (.iload_n 3, 1) := by decide +kernel
theorem dX11_set_10 : decode cX11_set 10 = .ok (.ifCond .lt 23, 3) := by decide +kernel
theorem dX11_set_13 : decode cX11_set 13 = .ok (.iload_n 3, 1) := by decide +kernel
theorem dX11_set_14 : decode cX11_set 14 = .ok (.iload_n 1, 1) := by decide +kernel
theorem dX11_set_15 : decode cX11_set 15 = .ok (.invokestatic 103, 3) := by decide +kernel
theorem dX11_set_18 : decode cX11_set 18 = .ok (.if_icmp .gt 15, 3) := by decide +kernel
theorem dX11_set_21 : decode cX11_set 21 = .ok (.iload_n 1, 1) := by decide +kernel
theorem dX11_set_22 : decode cX11_set 22 = .ok (.iconst 3, 1) := by decide +kernel
theorem dX11_set_23 : decode cX11_set 23 = .ok (.if_icmp .ne 12, 3) := by decide +kernel
theorem dX11_set_26 : decode cX11_set 26 = .ok (.iload_n 2, 1) := by decide +kernel
theorem dX11_set_27 : decode cX11_set 27 = .ok (.invokestatic 107, 3) := by decide +kernel
theorem dX11_set_30 : decode cX11_set 30 = .ok (.ifCond .ne 5, 3) := by decide +kernel
theorem dX11_set_33 : decode cX11_set 33 = .ok (.iconst 0, 1) := by decide +kernel
theorem dX11_set_34 : decode cX11_set 34 = .ok (.ireturn, 1) := by decide +kernel
theorem dX11_set_35 : decode cX11_set 35 = .ok (.aload_n 0, 1) := by decide +kernel
theorem dX11_set_36 : decode cX11_set 36 = .ok (.getfield 52, 3) := by decide +kernel
theorem dX11_set_39 : decode cX11_set 39 = .ok (.invokevirtual 97, 3) := by decide +kernel
theorem dX11_set_42 : decode cX11_set 42 = .ok (.iload_n 1, 1) := by decide +kernel
theorem dX11_set_43 : decode cX11_set 43 = .ok (.ifCond .ne 14, 3) := by decide +kernel
theorem dX11_set_46 : decode cX11_set 46 = .ok (.aload_n 0, 1) := by decide +kernel
theorem dX11_set_47 : decode cX11_set 47 = .ok (.getfield 10, 3) := by decide +kernel
theorem dX11_set_50 : decode cX11_set 50 = .ok (.iload_n 3, 1) := by decide +kernel
theorem dX11_set_51 : decode cX11_set 51 = .ok (.putfield 111, 3) := by decide +kernel
theorem dX11_set_54 : decode cX11_set 54 = .ok (.goto 45, 3) := by decide +kernel
theorem dX11_set_57 : decode cX11_set 57 = .ok (.iload_n 1, 1) := by decide +kernel
theorem dX11_set_58 : decode cX11_set 58 = .ok (.iconst 1, 1) := by decide +kernel
theorem dX11_set_59 : decode cX11_set 59 = .ok (.if_icmp .ne 14, 3) := by decide +kernel
theorem dX11_set_62 : decode cX11_set 62 = .ok (.aload_n 0, 1) := by decide +kernel
theorem dX11_set_63 : decode cX11_set 63 = .ok (.getfield 10, 3) := by decide +kernel
theorem dX11_set_66 : decode cX11_set 66 = .ok (.iload_n 3, 1) := by decide +kernel
theorem dX11_set_67 : decode cX11_set 67 = .ok (.putfield 114, 3) := by decide +kernel
theorem dX11_set_70 : decode cX11_set 70 = .ok (.goto 29, 3) := by decide +kernel
theorem dX11_set_73 : decode cX11_set 73 = .ok (.iload_n 1, 1) := by decide +kernel
theorem dX11_set_74 : decode cX11_set 74 = .ok (.iconst 2, 1) := by decide +kernel
theorem dX11_set_75 : decode cX11_set 75 = .ok (.if_icmp .ne 14, 3) := by decide +kernel
theorem dX11_set_78 : decode cX11_set 78 = .ok (.aload_n 0, 1) := by decide +kernel
theorem dX11_set_79 : decode cX11_set 79 = .ok (.getfield 10, 3) := by decide +kernel
theorem dX11_set_82 : decode cX11_set 82 = .ok (.iload_n 3, 1) := by decide +kernel
theorem dX11_set_83 : decode cX11_set 83 = .ok (.putfield 117, 3) := by decide +kernel
theorem dX11_set_86 : decode cX11_set 86 = .ok (.goto 13, 3) := by decide +kernel
theorem dX11_set_89 : decode cX11_set 89 = .ok (.aload_n 0, 1) := by decide +kernel
theorem dX11_set_90 : decode cX11_set 90 = .ok (.getfield 10, 3) := by decide +kernel
theorem dX11_set_93 : decode cX11_set 93 = .ok (.getfield 120, 3) := by decide +kernel
theorem dX11_set_96 : decode cX11_set 96 = .ok (.iload_n 2, 1) := by decide +kernel
theorem dX11_set_97 : decode cX11_set 97 = .ok (.iload_n 3, 1) := by decide +kernel
theorem dX11_set_98 : decode cX11_set 98 = .ok (.iastore, 1) := by decide +kernel
theorem dX11_set_99 : decode cX11_set 99 = .ok (.iconst 1, 1) := by decide +kernel
theorem dX11_set_100 : decode cX11_set 100 = .ok (.ireturn, 1) := by decide +kernel
theorem dX11_mostOf_0 : decode cX11_mostOf 0 = .ok (.iload_n 0, 1) := by decide +kernel
theorem dX11_mostOf_1 : decode cX11_mostOf 1 = .ok (.ifCond .ne 6, 3) := by decide +kernel
theorem dX11_mostOf_4 : decode cX11_mostOf 4 = .ok (.bipush 8, 2) := by decide +kernel
theorem dX11_mostOf_6 : decode cX11_mostOf 6 = .ok (.ireturn, 1) := by decide +kernel
theorem dX11_mostOf_7 : decode cX11_mostOf 7 = .ok (.iload_n 0, 1) := by decide +kernel
theorem dX11_mostOf_8 : decode cX11_mostOf 8 = .ok (.iconst 3, 1) := by decide +kernel
theorem dX11_mostOf_9 : decode cX11_mostOf 9 = .ok (.if_icmp .ne 7, 3) := by decide +kernel
theorem dX11_mostOf_12 : decode cX11_mostOf 12 = .ok (.iconst 5, 1) := by decide +kernel
theorem dX11_mostOf_13 : decode cX11_mostOf 13 = .ok (.goto 6, 3) := by decide +kernel
theorem dX11_mostOf_16 : decode cX11_mostOf 16 = .ok (.sipush 1000, 3) := by decide +kernel
theorem dX11_mostOf_19 : decode cX11_mostOf 19 = .ok (.ireturn, 1) := by decide +kernel
theorem dX11_line_0 : decode cX11_line 0 = .ok (.aload_n 0, 1) := by decide +kernel
theorem dX11_line_1 : decode cX11_line 1 = .ok (.iload_n 1, 1) := by decide +kernel
theorem dX11_line_2 : decode cX11_line 2 = .ok (.iload_n 2, 1) := by decide +kernel
theorem dX11_line_3 : decode cX11_line 3 = .ok (.invokevirtual 124, 3) := by decide +kernel
theorem dX11_line_6 : decode cX11_line 6 = .ok (.ifCond .ne 5, 3) := by decide +kernel
theorem dX11_line_9 : decode cX11_line 9 = .ok (.iconst 0, 1) := by decide +kernel
theorem dX11_line_10 : decode cX11_line 10 = .ok (.ireturn, 1) := by decide +kernel
theorem dX11_line_11 : decode cX11_line 11 = .ok (.aload_n 0, 1) := by decide +kernel
theorem dX11_line_12 : decode cX11_line 12 = .ok (.getfield 52, 3) := by decide +kernel
theorem dX11_line_15 : decode cX11_line 15 = .ok (.invokevirtual 97, 3) := by decide +kernel
theorem dX11_line_18 : decode cX11_line 18 = .ok (.aload_n 0, 1) := by decide +kernel
theorem dX11_line_19 : decode cX11_line 19 = .ok (.getfield 10, 3) := by decide +kernel
theorem dX11_line_22 : decode cX11_line 22 = .ok (.iload_n 1, 1) := by decide +kernel
theorem dX11_line_23 : decode cX11_line 23 = .ok (.iload_n 2, 1) := by decide +kernel
theorem dX11_line_24 : decode cX11_line 24 = .ok (.iload_n 3, 1) := by decide +kernel
theorem dX11_line_25 : decode cX11_line 25 = .ok (.invokevirtual 128, 3) := by decide +kernel
theorem dX11_line_28 : decode cX11_line 28 = .ok (.iconst 1, 1) := by decide +kernel
theorem dX11_line_29 : decode cX11_line 29 = .ok (.ireturn, 1) := by decide +kernel
theorem dX11_feed_0 : decode cX11_feed 0 = .ok (.aload_n 0, 1) := by decide +kernel
theorem dX11_feed_1 : decode cX11_feed 1 = .ok (.getfield 59, 3) := by decide +kernel
theorem dX11_feed_4 : decode cX11_feed 4 = .ok (.getfield 132, 3) := by decide +kernel
theorem dX11_feed_7 : decode cX11_feed 7 = .ok (.bipush 20, 2) := by decide +kernel
theorem dX11_feed_9 : decode cX11_feed 9 = .ok (.iadd, 1) := by decide +kernel
theorem dX11_feed_10 : decode cX11_feed 10 = .ok (.sipush 400, 3) := by decide +kernel
theorem dX11_feed_13 : decode cX11_feed 13 = .ok (.if_icmp .le 5, 3) := by decide +kernel
theorem dX11_feed_16 : decode cX11_feed 16 = .ok (.iconst (-1), 1) := by decide +kernel
theorem dX11_feed_17 : decode cX11_feed 17 = .ok (.ireturn, 1) := by decide +kernel
theorem dX11_feed_18 : decode cX11_feed 18 = .ok (.aload_n 0, 1) := by decide +kernel
theorem dX11_feed_19 : decode cX11_feed 19 = .ok (.getfield 59, 3) := by decide +kernel
theorem dX11_feed_22 : decode cX11_feed 22 = .ok (.iload_n 1, 1) := by decide +kernel
theorem dX11_feed_23 : decode cX11_feed 23 = .ok (.invokevirtual 135, 3) := by decide +kernel
theorem dX11_feed_26 : decode cX11_feed 26 = .ok (.aload_n 0, 1) := by decide +kernel
theorem dX11_feed_27 : decode cX11_feed 27 = .ok (.getfield 59, 3) := by decide +kernel
theorem dX11_feed_30 : decode cX11_feed 30 = .ok (.iload_n 2, 1) := by decide +kernel
theorem dX11_feed_31 : decode cX11_feed 31 = .ok (.invokevirtual 135, 3) := by decide +kernel
theorem dX11_feed_34 : decode cX11_feed 34 = .ok (.aload_n 0, 1) := by decide +kernel
theorem dX11_feed_35 : decode cX11_feed 35 = .ok (.getfield 59, 3) := by decide +kernel
theorem dX11_feed_38 : decode cX11_feed 38 = .ok (.iload_n 3, 1) := by decide +kernel
theorem dX11_feed_39 : decode cX11_feed 39 = .ok (.invokevirtual 135, 3) := by decide +kernel
theorem dX11_feed_42 : decode cX11_feed 42 = .ok (.aload_n 0, 1) := by decide +kernel
theorem dX11_feed_43 : decode cX11_feed 43 = .ok (.getfield 59, 3) := by decide +kernel
theorem dX11_feed_46 : decode cX11_feed 46 = .ok (.iload 4, 2) := by decide +kernel
theorem dX11_feed_48 : decode cX11_feed 48 = .ok (.invokevirtual 135, 3) := by decide +kernel
theorem dX11_feed_51 : decode cX11_feed 51 = .ok (.aload_n 0, 1) := by decide +kernel
theorem dX11_feed_52 : decode cX11_feed 52 = .ok (.getfield 59, 3) := by decide +kernel
theorem dX11_feed_55 : decode cX11_feed 55 = .ok (.iload 5, 2) := by decide +kernel
theorem dX11_feed_57 : decode cX11_feed 57 = .ok (.invokevirtual 135, 3) := by decide +kernel
theorem dX11_feed_60 : decode cX11_feed 60 = .ok (.aload_n 0, 1) := by decide +kernel
theorem dX11_feed_61 : decode cX11_feed 61 = .ok (.getfield 59, 3) := by decide +kernel
theorem dX11_feed_64 : decode cX11_feed 64 = .ok (.getfield 132, 3) := by decide +kernel
theorem dX11_feed_67 : decode cX11_feed 67 = .ok (.ireturn, 1) := by decide +kernel
theorem dX11_end_0 : decode cX11_end 0 = .ok (.iload_n 1, 1) := by decide +kernel
theorem dX11_end_1 : decode cX11_end 1 = .ok (.ifCond .lt 14, 3) := by decide +kernel
theorem dX11_end_4 : decode cX11_end 4 = .ok (.iload_n 1, 1) := by decide +kernel
theorem dX11_end_5 : decode cX11_end 5 = .ok (.aload_n 0, 1) := by decide +kernel
theorem dX11_end_6 : decode cX11_end 6 = .ok (.getfield 59, 3) := by decide +kernel
theorem dX11_end_9 : decode cX11_end 9 = .ok (.getfield 132, 3) := by decide +kernel
theorem dX11_end_12 : decode cX11_end 12 = .ok (.if_icmp .le 5, 3) := by decide +kernel
theorem dX11_end_15 : decode cX11_end 15 = .ok (.iconst 0, 1) := by decide +kernel
theorem dX11_end_16 : decode cX11_end 16 = .ok (.ireturn, 1) := by decide +kernel
theorem dX11_end_17 : decode cX11_end 17 = .ok (.aload_n 0, 1) := by decide +kernel
theorem dX11_end_18 : decode cX11_end 18 = .ok (.getfield 59, 3) := by decide +kernel
theorem dX11_end_21 : decode cX11_end 21 = .ok (.iload_n 1, 1) := by decide +kernel
theorem dX11_end_22 : decode cX11_end 22 = .ok (.putfield 132, 3) := by decide +kernel
theorem dX11_end_25 : decode cX11_end 25 = .ok (.iconst 1, 1) := by decide +kernel
theorem dX11_end_26 : decode cX11_end 26 = .ok (.ireturn, 1) := by decide +kernel
theorem dX11_text_0 : decode cX11_text 0 = .ok (.aload_n 0, 1) := by decide +kernel
theorem dX11_text_1 : decode cX11_text 1 = .ok (.getfield 68, 3) := by decide +kernel
theorem dX11_text_4 : decode cX11_text 4 = .ok (.iload_n 1, 1) := by decide +kernel
theorem dX11_text_5 : decode cX11_text 5 = .ok (.aload_n 0, 1) := by decide +kernel
theorem dX11_text_6 : decode cX11_text 6 = .ok (.getfield 10, 3) := by decide +kernel
theorem dX11_text_9 : decode cX11_text 9 = .ok (.getfield 100, 3) := by decide +kernel
theorem dX11_text_12 : decode cX11_text 12 = .ok (.invokevirtual 139, 3) := by decide +kernel
theorem dX11_text_15 : decode cX11_text 15 = .ok (.istore_n 2, 1) := by decide +kernel
theorem dX11_text_16 : decode cX11_text 16 = .ok (.aload_n 0, 1) := by decide +kernel
theorem dX11_text_17 : decode cX11_text 17 = .ok (.getfield 59, 3) := by decide +kernel
theorem dX11_text_20 : decode cX11_text 20 = .ok (.iconst 0, 1) := by decide +kernel
theorem dX11_text_21 : decode cX11_text 21 = .ok (.putfield 132, 3) := by decide +kernel
theorem dX11_text_24 : decode cX11_text 24 = .ok (.iload_n 2, 1) := by decide +kernel
theorem dX11_text_25 : decode cX11_text 25 = .ok (.ifCond .ne 5, 3) := by decide +kernel
theorem dX11_text_28 : decode cX11_text 28 = .ok (.iconst (-1), 1) := by decide +kernel
theorem dX11_text_29 : decode cX11_text 29 = .ok (.ireturn, 1) := by decide +kernel
theorem dX11_text_30 : decode cX11_text 30 = .ok (.iload_n 1, 1) := by decide +kernel
theorem dX11_text_31 : decode cX11_text 31 = .ok (.ifCond .eq 8, 3) := by decide +kernel
theorem dX11_text_34 : decode cX11_text 34 = .ok (.iload_n 1, 1) := by decide +kernel
theorem dX11_text_35 : decode cX11_text 35 = .ok (.iconst 3, 1) := by decide +kernel
theorem dX11_text_36 : decode cX11_text 36 = .ok (.if_icmp .ne 10, 3) := by decide +kernel
theorem dX11_text_39 : decode cX11_text 39 = .ok (.aload_n 0, 1) := by decide +kernel
theorem dX11_text_40 : decode cX11_text 40 = .ok (.getfield 52, 3) := by decide +kernel
theorem dX11_text_43 : decode cX11_text 43 = .ok (.invokevirtual 97, 3) := by decide +kernel
theorem dX11_text_46 : decode cX11_text 46 = .ok (.aload_n 0, 1) := by decide +kernel
theorem dX11_text_47 : decode cX11_text 47 = .ok (.getfield 10, 3) := by decide +kernel
theorem dX11_text_50 : decode cX11_text 50 = .ok (.iload_n 1, 1) := by decide +kernel
theorem dX11_text_51 : decode cX11_text 51 = .ok (.invokevirtual 142, 3) := by decide +kernel
theorem dX11_text_54 : decode cX11_text 54 = .ok (.astore_n 3, 1) := by decide +kernel
theorem dX11_text_55 : decode cX11_text 55 = .ok (.aload_n 3, 1) := by decide +kernel
theorem dX11_text_56 : decode cX11_text 56 = .ok (.aload_n 0, 1) := by decide +kernel
theorem dX11_text_57 : decode cX11_text 57 = .ok (.getfield 68, 3) := by decide +kernel
theorem dX11_text_60 : decode cX11_text 60 = .ok (.getfield 146, 3) := by decide +kernel
theorem dX11_text_63 : decode cX11_text 63 = .ok (.invokevirtual 150, 3) := by decide +kernel
theorem dX11_text_66 : decode cX11_text 66 = .ok (.aload_n 3, 1) := by decide +kernel
theorem dX11_text_67 : decode cX11_text 67 = .ok (.getfield 156, 3) := by decide +kernel
theorem dX11_text_70 : decode cX11_text 70 = .ok (.ireturn, 1) := by decide +kernel
theorem dX11_fault_0 : decode cX11_fault 0 = .ok (.iload_n 1, 1) := by decide +kernel
theorem dX11_fault_1 : decode cX11_fault 1 = .ok (.ifCond .ne 11, 3) := by decide +kernel
theorem dX11_fault_4 : decode cX11_fault 4 = .ok (.aload_n 0, 1) := by decide +kernel
theorem dX11_fault_5 : decode cX11_fault 5 = .ok (.getfield 68, 3) := by decide +kernel
theorem dX11_fault_8 : decode cX11_fault 8 = .ok (.getfield 159, 3) := by decide +kernel
theorem dX11_fault_11 : decode cX11_fault 11 = .ok (.ireturn, 1) := by decide +kernel
theorem dX11_fault_12 : decode cX11_fault 12 = .ok (.iload_n 1, 1) := by decide +kernel
theorem dX11_fault_13 : decode cX11_fault 13 = .ok (.iconst 1, 1) := by decide +kernel
theorem dX11_fault_14 : decode cX11_fault 14 = .ok (.if_icmp .ne 13, 3) := by decide +kernel
theorem dX11_fault_17 : decode cX11_fault 17 = .ok (.aload_n 0, 1) := by decide +kernel
theorem dX11_fault_18 : decode cX11_fault 18 = .ok (.getfield 68, 3) := by decide +kernel
theorem dX11_fault_21 : decode cX11_fault 21 = .ok (.getfield 162, 3) := by decide +kernel
theorem dX11_fault_24 : decode cX11_fault 24 = .ok (.goto 4, 3) := by decide +kernel
theorem dX11_fault_27 : decode cX11_fault 27 = .ok (.iconst (-1), 1) := by decide +kernel
theorem dX11_fault_28 : decode cX11_fault 28 = .ok (.ireturn, 1) := by decide +kernel
theorem dX11_pot_0 : decode cX11_pot 0 = .ok (.aload_n 0, 1) := by decide +kernel
theorem dX11_pot_1 : decode cX11_pot 1 = .ok (.iload_n 1, 1) := by decide +kernel
theorem dX11_pot_2 : decode cX11_pot 2 = .ok (.invokevirtual 165, 3) := by decide +kernel
theorem dX11_pot_5 : decode cX11_pot 5 = .ok (.ifCond .eq 34, 3) := by decide +kernel
theorem dX11_pot_8 : decode cX11_pot 8 = .ok (.iload_n 2, 1) := by decide +kernel
theorem dX11_pot_9 : decode cX11_pot 9 = .ok (.invokestatic 107, 3) := by decide +kernel
theorem dX11_pot_12 : decode cX11_pot 12 = .ok (.ifCond .eq 27, 3) := by decide +kernel
theorem dX11_pot_15 : decode cX11_pot 15 = .ok (.iload_n 3, 1) := by decide +kernel
theorem dX11_pot_16 : decode cX11_pot 16 = .ok (.ifCond .lt 23, 3) := by decide +kernel
theorem dX11_pot_19 : decode cX11_pot 19 = .ok (.iload_n 3, 1) := by decide +kernel
theorem dX11_pot_20 : decode cX11_pot 20 = .ok (.bipush 9, 2) := by decide +kernel
theorem dX11_pot_22 : decode cX11_pot 22 = .ok (.if_icmp .gt 17, 3) := by decide +kernel
theorem dX11_pot_25 : decode cX11_pot 25 = .ok (.aload_n 0, 1) := by decide +kernel
theorem dX11_pot_26 : decode cX11_pot 26 = .ok (.getfield 10, 3) := by decide +kernel
theorem dX11_pot_29 : decode cX11_pot 29 = .ok (.getfield 32, 3) := by decide +kernel
theorem dX11_pot_32 : decode cX11_pot 32 = .ok (.iload_n 1, 1) := by decide +kernel
theorem dX11_pot_33 : decode cX11_pot 33 = .ok (.invokevirtual 168, 3) := by decide +kernel
theorem dX11_pot_36 : decode cX11_pot 36 = .ok (.ifCond .eq 5, 3) := by decide +kernel
theorem dX11_pot_39 : decode cX11_pot 39 = .ok (.iconst 0, 1) := by decide +kernel
theorem dX11_pot_40 : decode cX11_pot 40 = .ok (.ireturn, 1) := by decide +kernel
theorem dX11_pot_41 : decode cX11_pot 41 = .ok (.aload_n 0, 1) := by decide +kernel
theorem dX11_pot_42 : decode cX11_pot 42 = .ok (.getfield 52, 3) := by decide +kernel
theorem dX11_pot_45 : decode cX11_pot 45 = .ok (.aload_n 0, 1) := by decide +kernel
theorem dX11_pot_46 : decode cX11_pot 46 = .ok (.getfield 10, 3) := by decide +kernel
theorem dX11_pot_49 : decode cX11_pot 49 = .ok (.getfield 32, 3) := by decide +kernel
theorem dX11_pot_52 : decode cX11_pot 52 = .ok (.invokevirtual 171, 3) := by decide +kernel
theorem dX11_pot_55 : decode cX11_pot 55 = .ok (.aload_n 0, 1) := by decide +kernel
theorem dX11_pot_56 : decode cX11_pot 56 = .ok (.getfield 39, 3) := by decide +kernel
theorem dX11_pot_59 : decode cX11_pot 59 = .ok (.iload_n 1, 1) := by decide +kernel
theorem dX11_pot_60 : decode cX11_pot 60 = .ok (.iload_n 2, 1) := by decide +kernel
theorem dX11_pot_61 : decode cX11_pot 61 = .ok (.iload_n 3, 1) := by decide +kernel
theorem dX11_pot_62 : decode cX11_pot 62 = .ok (.invokevirtual 175, 3) := by decide +kernel
theorem dX11_pot_65 : decode cX11_pot 65 = .ok (.iconst 1, 1) := by decide +kernel
theorem dX11_pot_66 : decode cX11_pot 66 = .ok (.ireturn, 1) := by decide +kernel
theorem dX11_water_0 : decode cX11_water 0 = .ok (.aload_n 0, 1) := by decide +kernel
theorem dX11_water_1 : decode cX11_water 1 = .ok (.iload_n 1, 1) := by decide +kernel
theorem dX11_water_2 : decode cX11_water 2 = .ok (.invokevirtual 165, 3) := by decide +kernel
theorem dX11_water_5 : decode cX11_water 5 = .ok (.ifCond .eq 28, 3) := by decide +kernel
theorem dX11_water_8 : decode cX11_water 8 = .ok (.iload_n 2, 1) := by decide +kernel
theorem dX11_water_9 : decode cX11_water 9 = .ok (.iconst 1, 1) := by decide +kernel
theorem dX11_water_10 : decode cX11_water 10 = .ok (.if_icmp .lt 23, 3) := by decide +kernel
theorem dX11_water_13 : decode cX11_water 13 = .ok (.iload_n 2, 1) := by decide +kernel
theorem dX11_water_14 : decode cX11_water 14 = .ok (.bipush 99, 2) := by decide +kernel
theorem dX11_water_16 : decode cX11_water 16 = .ok (.if_icmp .gt 17, 3) := by decide +kernel
theorem dX11_water_19 : decode cX11_water 19 = .ok (.aload_n 0, 1) := by decide +kernel
theorem dX11_water_20 : decode cX11_water 20 = .ok (.getfield 10, 3) := by decide +kernel
theorem dX11_water_23 : decode cX11_water 23 = .ok (.getfield 32, 3) := by decide +kernel
theorem dX11_water_26 : decode cX11_water 26 = .ok (.iload_n 1, 1) := by decide +kernel
theorem dX11_water_27 : decode cX11_water 27 = .ok (.invokevirtual 168, 3) := by decide +kernel
theorem dX11_water_30 : decode cX11_water 30 = .ok (.ifCond .ne 5, 3) := by decide +kernel
theorem dX11_water_33 : decode cX11_water 33 = .ok (.iconst 0, 1) := by decide +kernel
theorem dX11_water_34 : decode cX11_water 34 = .ok (.ireturn, 1) := by decide +kernel
theorem dX11_water_35 : decode cX11_water 35 = .ok (.aload_n 0, 1) := by decide +kernel
theorem dX11_water_36 : decode cX11_water 36 = .ok (.getfield 52, 3) := by decide +kernel
theorem dX11_water_39 : decode cX11_water 39 = .ok (.aload_n 0, 1) := by decide +kernel
theorem dX11_water_40 : decode cX11_water 40 = .ok (.getfield 10, 3) := by decide +kernel
theorem dX11_water_43 : decode cX11_water 43 = .ok (.getfield 32, 3) := by decide +kernel
theorem dX11_water_46 : decode cX11_water 46 = .ok (.invokevirtual 171, 3) := by decide +kernel
theorem dX11_water_49 : decode cX11_water 49 = .ok (.aload_n 0, 1) := by decide +kernel
theorem dX11_water_50 : decode cX11_water 50 = .ok (.getfield 39, 3) := by decide +kernel
theorem dX11_water_53 : decode cX11_water 53 = .ok (.iload_n 1, 1) := by decide +kernel
theorem dX11_water_54 : decode cX11_water 54 = .ok (.iload_n 2, 1) := by decide +kernel
theorem dX11_water_55 : decode cX11_water 55 = .ok (.invokevirtual 179, 3) := by decide +kernel
theorem dX11_water_58 : decode cX11_water 58 = .ok (.iconst 1, 1) := by decide +kernel
theorem dX11_water_59 : decode cX11_water 59 = .ok (.ireturn, 1) := by decide +kernel
theorem dX11_weed_0 : decode cX11_weed 0 = .ok (.aload_n 0, 1) := by decide +kernel
theorem dX11_weed_1 : decode cX11_weed 1 = .ok (.iload_n 1, 1) := by decide +kernel
theorem dX11_weed_2 : decode cX11_weed 2 = .ok (.invokevirtual 165, 3) := by decide +kernel
theorem dX11_weed_5 : decode cX11_weed 5 = .ok (.ifCond .eq 17, 3) := by decide +kernel
theorem dX11_weed_8 : decode cX11_weed 8 = .ok (.aload_n 0, 1) := by decide +kernel
theorem dX11_weed_9 : decode cX11_weed 9 = .ok (.getfield 10, 3) := by decide +kernel
theorem dX11_weed_12 : decode cX11_weed 12 = .ok (.getfield 32, 3) := by decide +kernel
theorem dX11_weed_15 : decode cX11_weed 15 = .ok (.iload_n 1, 1) := by decide +kernel
theorem dX11_weed_16 : decode cX11_weed 16 = .ok (.invokevirtual 168, 3) := by decide +kernel
theorem dX11_weed_19 : decode cX11_weed 19 = .ok (.ifCond .ne 5, 3) := by decide +kernel
theorem dX11_weed_22 : decode cX11_weed 22 = .ok (.iconst 0, 1) := by decide +kernel
theorem dX11_weed_23 : decode cX11_weed 23 = .ok (.ireturn, 1) := by decide +kernel
theorem dX11_weed_24 : decode cX11_weed 24 = .ok (.aload_n 0, 1) := by decide +kernel
theorem dX11_weed_25 : decode cX11_weed 25 = .ok (.getfield 52, 3) := by decide +kernel
theorem dX11_weed_28 : decode cX11_weed 28 = .ok (.aload_n 0, 1) := by decide +kernel
theorem dX11_weed_29 : decode cX11_weed 29 = .ok (.getfield 10, 3) := by decide +kernel
theorem dX11_weed_32 : decode cX11_weed 32 = .ok (.getfield 32, 3) := by decide +kernel
theorem dX11_weed_35 : decode cX11_weed 35 = .ok (.invokevirtual 171, 3) := by decide +kernel
theorem dX11_weed_38 : decode cX11_weed 38 = .ok (.aload_n 0, 1) := by decide +kernel
theorem dX11_weed_39 : decode cX11_weed 39 = .ok (.getfield 39, 3) := by decide +kernel
theorem dX11_weed_42 : decode cX11_weed 42 = .ok (.iload_n 1, 1) := by decide +kernel
theorem dX11_weed_43 : decode cX11_weed 43 = .ok (.iconst 1, 1) := by decide +kernel
theorem dX11_weed_44 : decode cX11_weed 44 = .ok (.invokevirtual 183, 3) := by decide +kernel
theorem dX11_weed_47 : decode cX11_weed 47 = .ok (.iconst 1, 1) := by decide +kernel
theorem dX11_weed_48 : decode cX11_weed 48 = .ok (.ireturn, 1) := by decide +kernel
theorem dX11_tell_0 : decode cX11_tell 0 = .ok (.aload_n 0, 1) := by decide +kernel
theorem dX11_tell_1 : decode cX11_tell 1 = .ok (.iload_n 1, 1) := by decide +kernel
theorem dX11_tell_2 : decode cX11_tell 2 = .ok (.invokevirtual 165, 3) := by decide +kernel
theorem dX11_tell_5 : decode cX11_tell 5 = .ok (.ifCond .eq 20, 3) := by decide +kernel
theorem dX11_tell_8 : decode cX11_tell 8 = .ok (.iload_n 2, 1) := by decide +kernel
theorem dX11_tell_9 : decode cX11_tell 9 = .ok (.invokestatic 107, 3) := by decide +kernel
theorem dX11_tell_12 : decode cX11_tell 12 = .ok (.ifCond .eq 13, 3) := by decide +kernel
theorem dX11_tell_15 : decode cX11_tell 15 = .ok (.iload_n 3, 1) := by decide +kernel
theorem dX11_tell_16 : decode cX11_tell 16 = .ok (.ifCond .lt 9, 3) := by decide +kernel
theorem dX11_tell_19 : decode cX11_tell 19 = .ok (.iload_n 3, 1) := by decide +kernel
theorem dX11_tell_20 : decode cX11_tell 20 = .ok (.bipush 100, 2) := by decide +kernel
theorem dX11_tell_22 : decode cX11_tell 22 = .ok (.if_icmp .le 5, 3) := by decide +kernel
theorem dX11_tell_25 : decode cX11_tell 25 = .ok (.iconst 0, 1) := by decide +kernel
theorem dX11_tell_26 : decode cX11_tell 26 = .ok (.ireturn, 1) := by decide +kernel
theorem dX11_tell_27 : decode cX11_tell 27 = .ok (.aload_n 0, 1) := by decide +kernel
theorem dX11_tell_28 : decode cX11_tell 28 = .ok (.getfield 52, 3) := by decide +kernel
theorem dX11_tell_31 : decode cX11_tell 31 = .ok (.aload_n 0, 1) := by decide +kernel
theorem dX11_tell_32 : decode cX11_tell 32 = .ok (.getfield 10, 3) := by decide +kernel
theorem dX11_tell_35 : decode cX11_tell 35 = .ok (.getfield 32, 3) := by decide +kernel
theorem dX11_tell_38 : decode cX11_tell 38 = .ok (.invokevirtual 171, 3) := by decide +kernel
theorem dX11_tell_41 : decode cX11_tell 41 = .ok (.aload_n 0, 1) := by decide +kernel
theorem dX11_tell_42 : decode cX11_tell 42 = .ok (.getfield 10, 3) := by decide +kernel
theorem dX11_tell_45 : decode cX11_tell 45 = .ok (.getfield 32, 3) := by decide +kernel
theorem dX11_tell_48 : decode cX11_tell 48 = .ok (.iload_n 1, 1) := by decide +kernel
theorem dX11_tell_49 : decode cX11_tell 49 = .ok (.iload_n 2, 1) := by decide +kernel
theorem dX11_tell_50 : decode cX11_tell 50 = .ok (.iload_n 3, 1) := by decide +kernel
theorem dX11_tell_51 : decode cX11_tell 51 = .ok (.invokevirtual 186, 3) := by decide +kernel
theorem dX11_tell_54 : decode cX11_tell 54 = .ok (.iconst 1, 1) := by decide +kernel
theorem dX11_tell_55 : decode cX11_tell 55 = .ok (.ireturn, 1) := by decide +kernel
theorem dX11_weeks_0 : decode cX11_weeks 0 = .ok (.iload_n 1, 1) := by decide +kernel
theorem dX11_weeks_1 : decode cX11_weeks 1 = .ok (.iconst 1, 1) := by decide +kernel
theorem dX11_weeks_2 : decode cX11_weeks 2 = .ok (.if_icmp .lt 27, 3) := by decide +kernel
theorem dX11_weeks_5 : decode cX11_weeks 5 = .ok (.iload_n 1, 1) := by decide +kernel
theorem dX11_weeks_6 : decode cX11_weeks 6 = .ok (.bipush 60, 2) := by decide +kernel
theorem dX11_weeks_8 : decode cX11_weeks 8 = .ok (.if_icmp .gt 21, 3) := by decide +kernel
theorem dX11_weeks_11 : decode cX11_weeks 11 = .ok (.aload_n 0, 1) := by decide +kernel
theorem dX11_weeks_12 : decode cX11_weeks 12 = .ok (.getfield 10, 3) := by decide +kernel
theorem dX11_weeks_15 : decode cX11_weeks 15 = .ok (.getfield 32, 3) := by decide +kernel
theorem dX11_weeks_18 : decode cX11_weeks 18 = .ok (.getfield 189, 3) := by decide +kernel
theorem dX11_weeks_21 : decode cX11_weeks 21 = .ok (.iload_n 1, 1) := by decide +kernel
theorem dX11_weeks_22 : decode cX11_weeks 22 = .ok (.iadd, 1) := by decide +kernel
theorem dX11_weeks_23 : decode cX11_weeks 23 = .ok (.sipush 999, 3) := by decide +kernel
theorem dX11_weeks_26 : decode cX11_weeks 26 = .ok (.if_icmp .le 5, 3) := by decide +kernel
theorem dX11_weeks_29 : decode cX11_weeks 29 = .ok (.iconst (-1), 1) := by decide +kernel
theorem dX11_weeks_30 : decode cX11_weeks 30 = .ok (.ireturn, 1) := by decide +kernel
theorem dX11_weeks_31 : decode cX11_weeks 31 = .ok (.iconst 0, 1) := by decide +kernel
theorem dX11_weeks_32 : decode cX11_weeks 32 = .ok (.istore_n 2, 1) := by decide +kernel
theorem dX11_weeks_33 : decode cX11_weeks 33 = .ok (.iconst 0, 1) := by decide +kernel
theorem dX11_weeks_34 : decode cX11_weeks 34 = .ok (.istore_n 3, 1) := by decide +kernel
theorem dX11_weeks_35 : decode cX11_weeks 35 = .ok (.iload_n 3, 1) := by decide +kernel
theorem dX11_weeks_36 : decode cX11_weeks 36 = .ok (.iload_n 1, 1) := by decide +kernel
theorem dX11_weeks_37 : decode cX11_weeks 37 = .ok (.if_icmp .ge 33, 3) := by decide +kernel
theorem dX11_weeks_40 : decode cX11_weeks 40 = .ok (.aload_n 0, 1) := by decide +kernel
theorem dX11_weeks_41 : decode cX11_weeks 41 = .ok (.getfield 52, 3) := by decide +kernel
theorem dX11_weeks_44 : decode cX11_weeks 44 = .ok (.aload_n 0, 1) := by decide +kernel
theorem dX11_weeks_45 : decode cX11_weeks 45 = .ok (.getfield 10, 3) := by decide +kernel
theorem dX11_weeks_48 : decode cX11_weeks 48 = .ok (.getfield 32, 3) := by decide +kernel
theorem dX11_weeks_51 : decode cX11_weeks 51 = .ok (.invokevirtual 171, 3) := by decide +kernel
theorem dX11_weeks_54 : decode cX11_weeks 54 = .ok (.iload_n 2, 1) := by decide +kernel
theorem dX11_weeks_55 : decode cX11_weeks 55 = .ok (.aload_n 0, 1) := by decide +kernel
theorem dX11_weeks_56 : decode cX11_weeks 56 = .ok (.getfield 39, 3) := by decide +kernel
theorem dX11_weeks_59 : decode cX11_weeks 59 = .ok (.invokevirtual 192, 3) := by decide +kernel
theorem dX11_weeks_62 : decode cX11_weeks 62 = .ok (.iadd, 1) := by decide +kernel
theorem dX11_weeks_63 : decode cX11_weeks 63 = .ok (.istore_n 2, 1) := by decide +kernel
theorem dX11_weeks_64 : decode cX11_weeks 64 = .ok (.iinc 3 1, 3) := by decide +kernel
theorem dX11_weeks_67 : decode cX11_weeks 67 = .ok (.goto (-32), 3) := by decide +kernel
theorem dX11_weeks_70 : decode cX11_weeks 70 = .ok (.iload_n 2, 1) := by decide +kernel
theorem dX11_weeks_71 : decode cX11_weeks 71 = .ok (.ireturn, 1) := by decide +kernel
theorem dX11_of_0 : decode cX11_of 0 = .ok (.aload_n 0, 1) := by decide +kernel
theorem dX11_of_1 : decode cX11_of 1 = .ok (.iload_n 1, 1) := by decide +kernel
theorem dX11_of_2 : decode cX11_of 2 = .ok (.invokevirtual 165, 3) := by decide +kernel
theorem dX11_of_5 : decode cX11_of 5 = .ok (.ifCond .ne 7, 3) := by decide +kernel
theorem dX11_of_8 : decode cX11_of 8 = .ok (.sipush (-1000), 3) := by decide +kernel
theorem dX11_of_11 : decode cX11_of 11 = .ok (.ireturn, 1) := by decide +kernel
theorem dX11_of_12 : decode cX11_of 12 = .ok (.aload_n 0, 1) := by decide +kernel
theorem dX11_of_13 : decode cX11_of 13 = .ok (.getfield 10, 3) := by decide +kernel
theorem dX11_of_16 : decode cX11_of 16 = .ok (.getfield 32, 3) := by decide +kernel
theorem dX11_of_19 : decode cX11_of 19 = .ok (.astore_n 3, 1) := by decide +kernel
theorem dX11_of_20 : decode cX11_of 20 = .ok (.iload_n 2, 1) := by decide +kernel
theorem dX11_of_21 : decode cX11_of 21 = .ok (.tableswitch 102 0 8 #[51, 58, 65, 72, 79, 85, 95, 95, 95], 51) := by decide +kernel
theorem dX11_of_72 : decode cX11_of 72 = .ok (.aload_n 3, 1) := by decide +kernel
theorem dX11_of_73 : decode cX11_of 73 = .ok (.getfield 196, 3) := by decide +kernel
theorem dX11_of_76 : decode cX11_of 76 = .ok (.iload_n 1, 1) := by decide +kernel
theorem dX11_of_77 : decode cX11_of 77 = .ok (.iaload, 1) := by decide +kernel
theorem dX11_of_78 : decode cX11_of 78 = .ok (.ireturn, 1) := by decide +kernel
theorem dX11_of_79 : decode cX11_of 79 = .ok (.aload_n 3, 1) := by decide +kernel
theorem dX11_of_80 : decode cX11_of 80 = .ok (.getfield 199, 3) := by decide +kernel
theorem dX11_of_83 : decode cX11_of 83 = .ok (.iload_n 1, 1) := by decide +kernel
theorem dX11_of_84 : decode cX11_of 84 = .ok (.iaload, 1) := by decide +kernel
theorem dX11_of_85 : decode cX11_of 85 = .ok (.ireturn, 1) := by decide +kernel
theorem dX11_of_86 : decode cX11_of 86 = .ok (.aload_n 3, 1) := by decide +kernel
theorem dX11_of_87 : decode cX11_of 87 = .ok (.getfield 202, 3) := by decide +kernel
theorem dX11_of_90 : decode cX11_of 90 = .ok (.iload_n 1, 1) := by decide +kernel
theorem dX11_of_91 : decode cX11_of 91 = .ok (.iaload, 1) := by decide +kernel
theorem dX11_of_92 : decode cX11_of 92 = .ok (.ireturn, 1) := by decide +kernel
theorem dX11_of_93 : decode cX11_of 93 = .ok (.aload_n 3, 1) := by decide +kernel
theorem dX11_of_94 : decode cX11_of 94 = .ok (.getfield 205, 3) := by decide +kernel
theorem dX11_of_97 : decode cX11_of 97 = .ok (.iload_n 1, 1) := by decide +kernel
theorem dX11_of_98 : decode cX11_of 98 = .ok (.iaload, 1) := by decide +kernel
theorem dX11_of_99 : decode cX11_of 99 = .ok (.ireturn, 1) := by decide +kernel
theorem dX11_of_100 : decode cX11_of 100 = .ok (.aload_n 3, 1) := by decide +kernel
theorem dX11_of_101 : decode cX11_of 101 = .ok (.iload_n 1, 1) := by decide +kernel
theorem dX11_of_102 : decode cX11_of 102 = .ok (.invokevirtual 208, 3) := by decide +kernel
theorem dX11_of_105 : decode cX11_of 105 = .ok (.ireturn, 1) := by decide +kernel
theorem dX11_of_106 : decode cX11_of 106 = .ok (.aload_n 0, 1) := by decide +kernel
theorem dX11_of_107 : decode cX11_of 107 = .ok (.getfield 10, 3) := by decide +kernel
theorem dX11_of_110 : decode cX11_of 110 = .ok (.getfield 211, 3) := by decide +kernel
theorem dX11_of_113 : decode cX11_of 113 = .ok (.iload_n 1, 1) := by decide +kernel
theorem dX11_of_114 : decode cX11_of 114 = .ok (.iaload, 1) := by decide +kernel
theorem dX11_of_115 : decode cX11_of 115 = .ok (.ireturn, 1) := by decide +kernel
theorem dX11_of_116 : decode cX11_of 116 = .ok (.aload_n 0, 1) := by decide +kernel
theorem dX11_of_117 : decode cX11_of 117 = .ok (.iload_n 1, 1) := by decide +kernel
theorem dX11_of_118 : decode cX11_of 118 = .ok (.iload_n 2, 1) := by decide +kernel
theorem dX11_of_119 : decode cX11_of 119 = .ok (.invokevirtual 213, 3) := by decide +kernel
theorem dX11_of_122 : decode cX11_of 122 = .ok (.ireturn, 1) := by decide +kernel
theorem dX11_of_123 : decode cX11_of 123 = .ok (.iload_n 2, 1) := by decide +kernel
theorem dX11_of_124 : decode cX11_of 124 = .ok (.bipush 10, 2) := by decide +kernel
theorem dX11_of_126 : decode cX11_of 126 = .ok (.isub, 1) := by decide +kernel
theorem dX11_of_127 : decode cX11_of 127 = .ok (.invokestatic 107, 3) := by decide +kernel
theorem dX11_of_130 : decode cX11_of 130 = .ok (.ifCond .eq 15, 3) := by decide +kernel
theorem dX11_of_133 : decode cX11_of 133 = .ok (.aload_n 3, 1) := by decide +kernel
theorem dX11_of_134 : decode cX11_of 134 = .ok (.iload_n 1, 1) := by decide +kernel
theorem dX11_of_135 : decode cX11_of 135 = .ok (.iload_n 2, 1) := by decide +kernel
theorem dX11_of_136 : decode cX11_of 136 = .ok (.bipush 10, 2) := by decide +kernel
theorem dX11_of_138 : decode cX11_of 138 = .ok (.isub, 1) := by decide +kernel
theorem dX11_of_139 : decode cX11_of 139 = .ok (.invokevirtual 217, 3) := by decide +kernel
theorem dX11_of_142 : decode cX11_of 142 = .ok (.goto 6, 3) := by decide +kernel
theorem dX11_of_145 : decode cX11_of 145 = .ok (.sipush (-1000), 3) := by decide +kernel
theorem dX11_of_148 : decode cX11_of 148 = .ok (.ireturn, 1) := by decide +kernel
theorem dX11_lawOf_0 : decode cX11_lawOf 0 = .ok (.aload_n 0, 1) := by decide +kernel
theorem dX11_lawOf_1 : decode cX11_lawOf 1 = .ok (.getfield 10, 3) := by decide +kernel
theorem dX11_lawOf_4 : decode cX11_lawOf 4 = .ok (.getfield 32, 3) := by decide +kernel
theorem dX11_lawOf_7 : decode cX11_lawOf 7 = .ok (.iload_n 1, 1) := by decide +kernel
theorem dX11_lawOf_8 : decode cX11_lawOf 8 = .ok (.invokevirtual 168, 3) := by decide +kernel
theorem dX11_lawOf_11 : decode cX11_lawOf 11 = .ok (.ifCond .ne 6, 3) := by decide +kernel
theorem dX11_lawOf_14 : decode cX11_lawOf 14 = .ok (.bipush (-100), 2) := by decide +kernel
theorem dX11_lawOf_16 : decode cX11_lawOf 16 = .ok (.ireturn, 1) := by decide +kernel
theorem dX11_lawOf_17 : decode cX11_lawOf 17 = .ok (.aload_n 0, 1) := by decide +kernel
theorem dX11_lawOf_18 : decode cX11_lawOf 18 = .ok (.getfield 26, 3) := by decide +kernel
theorem dX11_lawOf_21 : decode cX11_lawOf 21 = .ok (.aload_n 0, 1) := by decide +kernel
theorem dX11_lawOf_22 : decode cX11_lawOf 22 = .ok (.getfield 10, 3) := by decide +kernel
theorem dX11_lawOf_25 : decode cX11_lawOf 25 = .ok (.aload_n 0, 1) := by decide +kernel
theorem dX11_lawOf_26 : decode cX11_lawOf 26 = .ok (.getfield 10, 3) := by decide +kernel
theorem dX11_lawOf_29 : decode cX11_lawOf 29 = .ok (.getfield 32, 3) := by decide +kernel
theorem dX11_lawOf_32 : decode cX11_lawOf 32 = .ok (.iload_n 1, 1) := by decide +kernel
theorem dX11_lawOf_33 : decode cX11_lawOf 33 = .ok (.aload_n 0, 1) := by decide +kernel
theorem dX11_lawOf_34 : decode cX11_lawOf 34 = .ok (.getfield 10, 3) := by decide +kernel
theorem dX11_lawOf_37 : decode cX11_lawOf 37 = .ok (.getfield 32, 3) := by decide +kernel
theorem dX11_lawOf_40 : decode cX11_lawOf 40 = .ok (.iload_n 1, 1) := by decide +kernel
theorem dX11_lawOf_41 : decode cX11_lawOf 41 = .ok (.invokevirtual 220, 3) := by decide +kernel
theorem dX11_lawOf_44 : decode cX11_lawOf 44 = .ok (.invokevirtual 223, 3) := by decide +kernel
theorem dX11_lawOf_47 : decode cX11_lawOf 47 = .ok (.iload_n 2, 1) := by decide +kernel
theorem dX11_lawOf_48 : decode cX11_lawOf 48 = .ok (.bipush 6, 2) := by decide +kernel
theorem dX11_lawOf_50 : decode cX11_lawOf 50 = .ok (.if_icmp .ne 18, 3) := by decide +kernel
theorem dX11_lawOf_53 : decode cX11_lawOf 53 = .ok (.aload_n 0, 1) := by decide +kernel
theorem dX11_lawOf_54 : decode cX11_lawOf 54 = .ok (.getfield 26, 3) := by decide +kernel
theorem dX11_lawOf_57 : decode cX11_lawOf 57 = .ok (.aload_n 0, 1) := by decide +kernel
theorem dX11_lawOf_58 : decode cX11_lawOf 58 = .ok (.getfield 10, 3) := by decide +kernel
theorem dX11_lawOf_61 : decode cX11_lawOf 61 = .ok (.getfield 227, 3) := by decide +kernel
theorem dX11_lawOf_64 : decode cX11_lawOf 64 = .ok (.invokevirtual 229, 3) := by decide +kernel
theorem dX11_lawOf_67 : decode cX11_lawOf 67 = .ok (.ireturn, 1) := by decide +kernel
theorem dX11_lawOf_68 : decode cX11_lawOf 68 = .ok (.iload_n 2, 1) := by decide +kernel
theorem dX11_lawOf_69 : decode cX11_lawOf 69 = .ok (.bipush 7, 2) := by decide +kernel
theorem dX11_lawOf_71 : decode cX11_lawOf 71 = .ok (.if_icmp .ne 20, 3) := by decide +kernel
theorem dX11_lawOf_74 : decode cX11_lawOf 74 = .ok (.aload_n 0, 1) := by decide +kernel
theorem dX11_lawOf_75 : decode cX11_lawOf 75 = .ok (.getfield 26, 3) := by decide +kernel
theorem dX11_lawOf_78 : decode cX11_lawOf 78 = .ok (.aload_n 0, 1) := by decide +kernel
theorem dX11_lawOf_79 : decode cX11_lawOf 79 = .ok (.getfield 10, 3) := by decide +kernel
theorem dX11_lawOf_82 : decode cX11_lawOf 82 = .ok (.getfield 227, 3) := by decide +kernel
theorem dX11_lawOf_85 : decode cX11_lawOf 85 = .ok (.invokevirtual 233, 3) := by decide +kernel
theorem dX11_lawOf_88 : decode cX11_lawOf 88 = .ok (.goto 17, 3) := by decide +kernel
theorem dX11_lawOf_91 : decode cX11_lawOf 91 = .ok (.aload_n 0, 1) := by decide +kernel
theorem dX11_lawOf_92 : decode cX11_lawOf 92 = .ok (.getfield 26, 3) := by decide +kernel
theorem dX11_lawOf_95 : decode cX11_lawOf 95 = .ok (.aload_n 0, 1) := by decide +kernel
theorem dX11_lawOf_96 : decode cX11_lawOf 96 = .ok (.getfield 10, 3) := by decide +kernel
theorem dX11_lawOf_99 : decode cX11_lawOf 99 = .ok (.getfield 227, 3) := by decide +kernel
theorem dX11_lawOf_102 : decode cX11_lawOf 102 = .ok (.invokevirtual 236, 3) := by decide +kernel
theorem dX11_lawOf_105 : decode cX11_lawOf 105 = .ok (.ireturn, 1) := by decide +kernel
theorem dX11_reason_0 : decode cX11_reason 0 = .ok (.iload_n 1, 1) := by decide +kernel
theorem dX11_reason_1 : decode cX11_reason 1 = .ok (.ifCond .lt 26, 3) := by decide +kernel
theorem dX11_reason_4 : decode cX11_reason 4 = .ok (.iload_n 1, 1) := by decide +kernel
theorem dX11_reason_5 : decode cX11_reason 5 = .ok (.aload_n 0, 1) := by decide +kernel
theorem dX11_reason_6 : decode cX11_reason 6 = .ok (.getfield 10, 3) := by decide +kernel
theorem dX11_reason_9 : decode cX11_reason 9 = .ok (.getfield 239, 3) := by decide +kernel
theorem dX11_reason_12 : decode cX11_reason 12 = .ok (.getfield 156, 3) := by decide +kernel
theorem dX11_reason_15 : decode cX11_reason 15 = .ok (.if_icmp .ge 12, 3) := by decide +kernel
theorem dX11_reason_18 : decode cX11_reason 18 = .ok (.iload_n 2, 1) := by decide +kernel
theorem dX11_reason_19 : decode cX11_reason 19 = .ok (.ifCond .lt 8, 3) := by decide +kernel
theorem dX11_reason_22 : decode cX11_reason 22 = .ok (.iload_n 2, 1) := by decide +kernel
theorem dX11_reason_23 : decode cX11_reason 23 = .ok (.iconst 2, 1) := by decide +kernel
theorem dX11_reason_24 : decode cX11_reason 24 = .ok (.if_icmp .le 5, 3) := by decide +kernel
theorem dX11_reason_27 : decode cX11_reason 27 = .ok (.iconst (-1), 1) := by decide +kernel
theorem dX11_reason_28 : decode cX11_reason 28 = .ok (.ireturn, 1) := by decide +kernel
theorem dX11_reason_29 : decode cX11_reason 29 = .ok (.aload_n 0, 1) := by decide +kernel
theorem dX11_reason_30 : decode cX11_reason 30 = .ok (.getfield 10, 3) := by decide +kernel
theorem dX11_reason_33 : decode cX11_reason 33 = .ok (.getfield 239, 3) := by decide +kernel
theorem dX11_reason_36 : decode cX11_reason 36 = .ok (.iload_n 1, 1) := by decide +kernel
theorem dX11_reason_37 : decode cX11_reason 37 = .ok (.iload_n 2, 1) := by decide +kernel
theorem dX11_reason_38 : decode cX11_reason 38 = .ok (.invokevirtual 242, 3) := by decide +kernel
theorem dX11_reason_41 : decode cX11_reason 41 = .ok (.ireturn, 1) := by decide +kernel
theorem dX11_book_0 : decode cX11_book 0 = .ok (.iload_n 1, 1) := by decide +kernel
theorem dX11_book_1 : decode cX11_book 1 = .ok (.ifCond .lt 26, 3) := by decide +kernel
theorem dX11_book_4 : decode cX11_book 4 = .ok (.iload_n 1, 1) := by decide +kernel
theorem dX11_book_5 : decode cX11_book 5 = .ok (.aload_n 0, 1) := by decide +kernel
theorem dX11_book_6 : decode cX11_book 6 = .ok (.getfield 10, 3) := by decide +kernel
theorem dX11_book_9 : decode cX11_book 9 = .ok (.getfield 32, 3) := by decide +kernel
theorem dX11_book_12 : decode cX11_book 12 = .ok (.getfield 245, 3) := by decide +kernel
theorem dX11_book_15 : decode cX11_book 15 = .ok (.if_icmp .ge 12, 3) := by decide +kernel
theorem dX11_book_18 : decode cX11_book 18 = .ok (.iload_n 2, 1) := by decide +kernel
theorem dX11_book_19 : decode cX11_book 19 = .ok (.ifCond .lt 8, 3) := by decide +kernel
theorem dX11_book_22 : decode cX11_book 22 = .ok (.iload_n 2, 1) := by decide +kernel
theorem dX11_book_23 : decode cX11_book 23 = .ok (.iconst 4, 1) := by decide +kernel
theorem dX11_book_24 : decode cX11_book 24 = .ok (.if_icmp .lt 5, 3) := by decide +kernel
theorem dX11_book_27 : decode cX11_book 27 = .ok (.iconst (-1), 1) := by decide +kernel
theorem dX11_book_28 : decode cX11_book 28 = .ok (.ireturn, 1) := by decide +kernel
theorem dX11_book_29 : decode cX11_book 29 = .ok (.aload_n 0, 1) := by decide +kernel
theorem dX11_book_30 : decode cX11_book 30 = .ok (.getfield 10, 3) := by decide +kernel
theorem dX11_book_33 : decode cX11_book 33 = .ok (.getfield 248, 3) := by decide +kernel
theorem dX11_book_36 : decode cX11_book 36 = .ok (.iload_n 1, 1) := by decide +kernel
theorem dX11_book_37 : decode cX11_book 37 = .ok (.iconst 4, 1) := by decide +kernel
theorem dX11_book_38 : decode cX11_book 38 = .ok (.imul, 1) := by decide +kernel
theorem dX11_book_39 : decode cX11_book 39 = .ok (.iload_n 2, 1) := by decide +kernel
theorem dX11_book_40 : decode cX11_book 40 = .ok (.iadd, 1) := by decide +kernel
theorem dX11_book_41 : decode cX11_book 41 = .ok (.iaload, 1) := by decide +kernel
theorem dX11_book_42 : decode cX11_book 42 = .ok (.ireturn, 1) := by decide +kernel
theorem dX11_first_0 : decode cX11_first 0 = .ok (.iload_n 1, 1) := by decide +kernel
theorem dX11_first_1 : decode cX11_first 1 = .ok (.iconst 1, 1) := by decide +kernel
theorem dX11_first_2 : decode cX11_first 2 = .ok (.if_icmp .lt 18, 3) := by decide +kernel
theorem dX11_first_5 : decode cX11_first 5 = .ok (.iload_n 1, 1) := by decide +kernel
theorem dX11_first_6 : decode cX11_first 6 = .ok (.bipush 60, 2) := by decide +kernel
theorem dX11_first_8 : decode cX11_first 8 = .ok (.if_icmp .gt 12, 3) := by decide +kernel
theorem dX11_first_11 : decode cX11_first 11 = .ok (.iload_n 2, 1) := by decide +kernel
theorem dX11_first_12 : decode cX11_first 12 = .ok (.ifCond .lt 8, 3) := by decide +kernel
theorem dX11_first_15 : decode cX11_first 15 = .ok (.iload_n 2, 1) := by decide +kernel
theorem dX11_first_16 : decode cX11_first 16 = .ok (.iconst 2, 1) := by decide +kernel
theorem dX11_first_17 : decode cX11_first 17 = .ok (.if_icmp .le 5, 3) := by decide +kernel
theorem dX11_first_20 : decode cX11_first 20 = .ok (.iconst (-1), 1) := by decide +kernel
theorem dX11_first_21 : decode cX11_first 21 = .ok (.ireturn, 1) := by decide +kernel
theorem dX11_first_22 : decode cX11_first 22 = .ok (.aload_n 0, 1) := by decide +kernel
theorem dX11_first_23 : decode cX11_first 23 = .ok (.getfield 46, 3) := by decide +kernel
theorem dX11_first_26 : decode cX11_first 26 = .ok (.invokevirtual 251, 3) := by decide +kernel
theorem dX11_first_29 : decode cX11_first 29 = .ok (.iconst (-1), 1) := by decide +kernel
theorem dX11_first_30 : decode cX11_first 30 = .ok (.istore_n 3, 1) := by decide +kernel
theorem dX11_first_31 : decode cX11_first 31 = .ok (.iconst (-1), 1) := by decide +kernel
theorem dX11_first_32 : decode cX11_first 32 = .ok (.istore 4, 2) := by decide +kernel
theorem dX11_first_34 : decode cX11_first 34 = .ok (.iconst 0, 1) := by decide +kernel
theorem dX11_first_35 : decode cX11_first 35 = .ok (.istore 5, 2) := by decide +kernel
theorem dX11_first_37 : decode cX11_first 37 = .ok (.iconst 0, 1) := by decide +kernel
theorem dX11_first_38 : decode cX11_first 38 = .ok (.istore 6, 2) := by decide +kernel
theorem dX11_first_40 : decode cX11_first 40 = .ok (.iload 6, 2) := by decide +kernel
theorem dX11_first_42 : decode cX11_first 42 = .ok (.iload_n 1, 1) := by decide +kernel
theorem dX11_first_43 : decode cX11_first 43 = .ok (.if_icmp .ge 58, 3) := by decide +kernel
theorem dX11_first_46 : decode cX11_first 46 = .ok (.aload_n 0, 1) := by decide +kernel
theorem dX11_first_47 : decode cX11_first 47 = .ok (.getfield 46, 3) := by decide +kernel
theorem dX11_first_50 : decode cX11_first 50 = .ok (.invokevirtual 192, 3) := by decide +kernel
theorem dX11_first_53 : decode cX11_first 53 = .ok (.istore 7, 2) := by decide +kernel
theorem dX11_first_55 : decode cX11_first 55 = .ok (.iload 7, 2) := by decide +kernel
theorem dX11_first_57 : decode cX11_first 57 = .ok (.ifCond .le 31, 3) := by decide +kernel
theorem dX11_first_60 : decode cX11_first 60 = .ok (.iload 5, 2) := by decide +kernel
theorem dX11_first_62 : decode cX11_first 62 = .ok (.ifCond .ne 26, 3) := by decide +kernel
theorem dX11_first_65 : decode cX11_first 65 = .ok (.aload_n 0, 1) := by decide +kernel
theorem dX11_first_66 : decode cX11_first 66 = .ok (.getfield 46, 3) := by decide +kernel
theorem dX11_first_69 : decode cX11_first 69 = .ok (.invokevirtual 254, 3) := by decide +kernel
theorem dX11_first_72 : decode cX11_first 72 = .ok (.istore_n 3, 1) := by decide +kernel
theorem dX11_first_73 : decode cX11_first 73 = .ok (.aload_n 0, 1) := by decide +kernel
theorem dX11_first_74 : decode cX11_first 74 = .ok (.getfield 10, 3) := by decide +kernel
theorem dX11_first_77 : decode cX11_first 77 = .ok (.getfield 32, 3) := by decide +kernel
theorem dX11_first_80 : decode cX11_first 80 = .ok (.getfield 189, 3) := by decide +kernel
theorem dX11_first_83 : decode cX11_first 83 = .ok (.iload 6, 2) := by decide +kernel
theorem dX11_first_85 : decode cX11_first 85 = .ok (.iadd, 1) := by decide +kernel
theorem dX11_first_86 : decode cX11_first 86 = .ok (.istore 4, 2) := by decide +kernel
theorem dX11_first_88 : decode cX11_first 88 = .ok (.iload 5, 2) := by decide +kernel
theorem dX11_first_90 : decode cX11_first 90 = .ok (.iload 7, 2) := by decide +kernel
theorem dX11_first_92 : decode cX11_first 92 = .ok (.iadd, 1) := by decide +kernel
theorem dX11_first_93 : decode cX11_first 93 = .ok (.istore 5, 2) := by decide +kernel
theorem dX11_first_95 : decode cX11_first 95 = .ok (.iinc 6 1, 3) := by decide +kernel
theorem dX11_first_98 : decode cX11_first 98 = .ok (.goto (-58), 3) := by decide +kernel
theorem dX11_first_101 : decode cX11_first 101 = .ok (.iload_n 2, 1) := by decide +kernel
theorem dX11_first_102 : decode cX11_first 102 = .ok (.iconst 2, 1) := by decide +kernel
theorem dX11_first_103 : decode cX11_first 103 = .ok (.if_icmp .ne 6, 3) := by decide +kernel
theorem dX11_first_106 : decode cX11_first 106 = .ok (.iload 5, 2) := by decide +kernel
theorem dX11_first_108 : decode cX11_first 108 = .ok (.ireturn, 1) := by decide +kernel
theorem dX11_first_109 : decode cX11_first 109 = .ok (.iload_n 2, 1) := by decide +kernel
theorem dX11_first_110 : decode cX11_first 110 = .ok (.ifCond .ne 7, 3) := by decide +kernel
theorem dX11_first_113 : decode cX11_first 113 = .ok (.iload_n 3, 1) := by decide +kernel
theorem dX11_first_114 : decode cX11_first 114 = .ok (.goto 5, 3) := by decide +kernel
theorem dX11_first_117 : decode cX11_first 117 = .ok (.iload 4, 2) := by decide +kernel
theorem dX11_first_119 : decode cX11_first 119 = .ok (.ireturn, 1) := by decide +kernel
theorem dX11_gives_0 : decode cX11_gives 0 = .ok (.iload_n 1, 1) := by decide +kernel
theorem dX11_gives_1 : decode cX11_gives 1 = .ok (.ifCond .eq 16, 3) := by decide +kernel
theorem dX11_gives_4 : decode cX11_gives 4 = .ok (.aload_n 0, 1) := by decide +kernel
theorem dX11_gives_5 : decode cX11_gives 5 = .ok (.iload_n 1, 1) := by decide +kernel
theorem dX11_gives_6 : decode cX11_gives 6 = .ok (.bipush 10, 2) := by decide +kernel
theorem dX11_gives_8 : decode cX11_gives 8 = .ok (.isub, 1) := by decide +kernel
theorem dX11_gives_9 : decode cX11_gives 9 = .ok (.invokevirtual 165, 3) := by decide +kernel
theorem dX11_gives_12 : decode cX11_gives 12 = .ok (.ifCond .ne 5, 3) := by decide +kernel
theorem dX11_gives_15 : decode cX11_gives 15 = .ok (.iconst (-1), 1) := by decide +kernel
theorem dX11_gives_16 : decode cX11_gives 16 = .ok (.ireturn, 1) := by decide +kernel
theorem dX11_gives_17 : decode cX11_gives 17 = .ok (.aload_n 0, 1) := by decide +kernel
theorem dX11_gives_18 : decode cX11_gives 18 = .ok (.getfield 75, 3) := by decide +kernel
theorem dX11_gives_21 : decode cX11_gives 21 = .ok (.aload_n 0, 1) := by decide +kernel
theorem dX11_gives_22 : decode cX11_gives 22 = .ok (.getfield 10, 3) := by decide +kernel
theorem dX11_gives_25 : decode cX11_gives 25 = .ok (.invokevirtual 257, 3) := by decide +kernel
theorem dX11_gives_28 : decode cX11_gives 28 = .ok (.ifCond .ne 5, 3) := by decide +kernel
theorem dX11_gives_31 : decode cX11_gives 31 = .ok (.iconst (-1), 1) := by decide +kernel
theorem dX11_gives_32 : decode cX11_gives 32 = .ok (.ireturn, 1) := by decide +kernel
theorem dX11_gives_33 : decode cX11_gives 33 = .ok (.iload_n 1, 1) := by decide +kernel
theorem dX11_gives_34 : decode cX11_gives 34 = .ok (.ifCond .ne 13, 3) := by decide +kernel
theorem dX11_gives_37 : decode cX11_gives 37 = .ok (.aload_n 0, 1) := by decide +kernel
theorem dX11_gives_38 : decode cX11_gives 38 = .ok (.getfield 75, 3) := by decide +kernel
theorem dX11_gives_41 : decode cX11_gives 41 = .ok (.getfield 261, 3) := by decide +kernel
theorem dX11_gives_44 : decode cX11_gives 44 = .ok (.goto 15, 3) := by decide +kernel
theorem dX11_gives_47 : decode cX11_gives 47 = .ok (.aload_n 0, 1) := by decide +kernel
theorem dX11_gives_48 : decode cX11_gives 48 = .ok (.getfield 75, 3) := by decide +kernel
theorem dX11_gives_51 : decode cX11_gives 51 = .ok (.getfield 264, 3) := by decide +kernel
theorem dX11_gives_54 : decode cX11_gives 54 = .ok (.iload_n 1, 1) := by decide +kernel
theorem dX11_gives_55 : decode cX11_gives 55 = .ok (.bipush 10, 2) := by decide +kernel
theorem dX11_gives_57 : decode cX11_gives 57 = .ok (.isub, 1) := by decide +kernel
theorem dX11_gives_58 : decode cX11_gives 58 = .ok (.iaload, 1) := by decide +kernel
theorem dX11_gives_59 : decode cX11_gives 59 = .ok (.ireturn, 1) := by decide +kernel
theorem dX11_done_0 : decode cX11_done 0 = .ok (.aload_n 0, 1) := by decide +kernel
theorem dX11_done_1 : decode cX11_done 1 = .ok (.getfield 82, 3) := by decide +kernel
theorem dX11_done_4 : decode cX11_done 4 = .ok (.aload_n 0, 1) := by decide +kernel
theorem dX11_done_5 : decode cX11_done 5 = .ok (.getfield 10, 3) := by decide +kernel
theorem dX11_done_8 : decode cX11_done 8 = .ok (.invokevirtual 267, 3) := by decide +kernel
theorem dX11_done_11 : decode cX11_done 11 = .ok (.ireturn, 1) := by decide +kernel
theorem dX11_struck_0 : decode cX11_struck 0 = .ok (.aload_n 0, 1) := by decide +kernel
theorem dX11_struck_1 : decode cX11_struck 1 = .ok (.iload_n 1, 1) := by decide +kernel
theorem dX11_struck_2 : decode cX11_struck 2 = .ok (.invokevirtual 165, 3) := by decide +kernel
theorem dX11_struck_5 : decode cX11_struck 5 = .ok (.ifCond .eq 12, 3) := by decide +kernel
theorem dX11_struck_8 : decode cX11_struck 8 = .ok (.iload_n 2, 1) := by decide +kernel
theorem dX11_struck_9 : decode cX11_struck 9 = .ok (.ifCond .lt 8, 3) := by decide +kernel
theorem dX11_struck_12 : decode cX11_struck 12 = .ok (.iload_n 2, 1) := by decide +kernel
theorem dX11_struck_13 : decode cX11_struck 13 = .ok (.iconst 1, 1) := by decide +kernel
theorem dX11_struck_14 : decode cX11_struck 14 = .ok (.if_icmp .le 5, 3) := by decide +kernel
theorem dX11_struck_17 : decode cX11_struck 17 = .ok (.iconst (-1), 1) := by decide +kernel
theorem dX11_struck_18 : decode cX11_struck 18 = .ok (.ireturn, 1) := by decide +kernel
theorem dX11_struck_19 : decode cX11_struck 19 = .ok (.aload_n 0, 1) := by decide +kernel
theorem dX11_struck_20 : decode cX11_struck 20 = .ok (.getfield 82, 3) := by decide +kernel
theorem dX11_struck_23 : decode cX11_struck 23 = .ok (.aload_n 0, 1) := by decide +kernel
theorem dX11_struck_24 : decode cX11_struck 24 = .ok (.getfield 10, 3) := by decide +kernel
theorem dX11_struck_27 : decode cX11_struck 27 = .ok (.iload_n 1, 1) := by decide +kernel
theorem dX11_struck_28 : decode cX11_struck 28 = .ok (.invokevirtual 271, 3) := by decide +kernel
theorem dX11_struck_31 : decode cX11_struck 31 = .ok (.istore_n 3, 1) := by decide +kernel
theorem dX11_struck_32 : decode cX11_struck 32 = .ok (.iload_n 2, 1) := by decide +kernel
theorem dX11_struck_33 : decode cX11_struck 33 = .ok (.iconst 1, 1) := by decide +kernel
theorem dX11_struck_34 : decode cX11_struck 34 = .ok (.if_icmp .ne 7, 3) := by decide +kernel
theorem dX11_struck_37 : decode cX11_struck 37 = .ok (.iload_n 3, 1) := by decide +kernel
theorem dX11_struck_38 : decode cX11_struck 38 = .ok (.goto 15, 3) := by decide +kernel
theorem dX11_struck_41 : decode cX11_struck 41 = .ok (.aload_n 0, 1) := by decide +kernel
theorem dX11_struck_42 : decode cX11_struck 42 = .ok (.getfield 10, 3) := by decide +kernel
theorem dX11_struck_45 : decode cX11_struck 45 = .ok (.getfield 32, 3) := by decide +kernel
theorem dX11_struck_48 : decode cX11_struck 48 = .ok (.iload_n 1, 1) := by decide +kernel
theorem dX11_struck_49 : decode cX11_struck 49 = .ok (.iload_n 3, 1) := by decide +kernel
theorem dX11_struck_50 : decode cX11_struck 50 = .ok (.invokevirtual 275, 3) := by decide +kernel
theorem dX11_struck_53 : decode cX11_struck 53 = .ok (.ireturn, 1) := by decide +kernel
theorem dX11_down_0 : decode cX11_down 0 = .ok (.aload_n 0, 1) := by decide +kernel
theorem dX11_down_1 : decode cX11_down 1 = .ok (.iload_n 1, 1) := by decide +kernel
theorem dX11_down_2 : decode cX11_down 2 = .ok (.invokevirtual 165, 3) := by decide +kernel
theorem dX11_down_5 : decode cX11_down 5 = .ok (.ifCond .eq 27, 3) := by decide +kernel
theorem dX11_down_8 : decode cX11_down 8 = .ok (.iload_n 2, 1) := by decide +kernel
theorem dX11_down_9 : decode cX11_down 9 = .ok (.invokestatic 107, 3) := by decide +kernel
theorem dX11_down_12 : decode cX11_down 12 = .ok (.ifCond .eq 20, 3) := by decide +kernel
theorem dX11_down_15 : decode cX11_down 15 = .ok (.aload_n 0, 1) := by decide +kernel
theorem dX11_down_16 : decode cX11_down 16 = .ok (.getfield 10, 3) := by decide +kernel
theorem dX11_down_19 : decode cX11_down 19 = .ok (.getfield 32, 3) := by decide +kernel
theorem dX11_down_22 : decode cX11_down 22 = .ok (.iload_n 1, 1) := by decide +kernel
theorem dX11_down_23 : decode cX11_down 23 = .ok (.iload_n 2, 1) := by decide +kernel
theorem dX11_down_24 : decode cX11_down 24 = .ok (.invokevirtual 217, 3) := by decide +kernel
theorem dX11_down_27 : decode cX11_down 27 = .ok (.bipush 90, 2) := by decide +kernel
theorem dX11_down_29 : decode cX11_down 29 = .ok (.if_icmp .ge 5, 3) := by decide +kernel
theorem dX11_down_32 : decode cX11_down 32 = .ok (.iconst (-1), 1) := by decide +kernel
theorem dX11_down_33 : decode cX11_down 33 = .ok (.ireturn, 1) := by decide +kernel
theorem dX11_down_34 : decode cX11_down 34 = .ok (.aload_n 0, 1) := by decide +kernel
theorem dX11_down_35 : decode cX11_down 35 = .ok (.getfield 82, 3) := by decide +kernel
theorem dX11_down_38 : decode cX11_down 38 = .ok (.aload_n 0, 1) := by decide +kernel
theorem dX11_down_39 : decode cX11_down 39 = .ok (.getfield 10, 3) := by decide +kernel
theorem dX11_down_42 : decode cX11_down 42 = .ok (.iload_n 1, 1) := by decide +kernel
theorem dX11_down_43 : decode cX11_down 43 = .ok (.iload_n 2, 1) := by decide +kernel
theorem dX11_down_44 : decode cX11_down 44 = .ok (.invokevirtual 278, 3) := by decide +kernel
theorem dX11_down_47 : decode cX11_down 47 = .ok (.ireturn, 1) := by decide +kernel
theorem dX11_by_0 : decode cX11_by 0 = .ok (.aload_n 0, 1) := by decide +kernel
theorem dX11_by_1 : decode cX11_by 1 = .ok (.iload_n 1, 1) := by decide +kernel
theorem dX11_by_2 : decode cX11_by 2 = .ok (.invokevirtual 165, 3) := by decide +kernel
theorem dX11_by_5 : decode cX11_by 5 = .ok (.ifCond .eq 10, 3) := by decide +kernel
theorem dX11_by_8 : decode cX11_by 8 = .ok (.iload_n 2, 1) := by decide +kernel
theorem dX11_by_9 : decode cX11_by 9 = .ok (.invokestatic 107, 3) := by decide +kernel
theorem dX11_by_12 : decode cX11_by 12 = .ok (.ifCond .ne 5, 3) := by decide +kernel
theorem dX11_by_15 : decode cX11_by 15 = .ok (.iconst (-1), 1) := by decide +kernel
theorem dX11_by_16 : decode cX11_by 16 = .ok (.ireturn, 1) := by decide +kernel
theorem dX11_by_17 : decode cX11_by 17 = .ok (.aload_n 0, 1) := by decide +kernel
theorem dX11_by_18 : decode cX11_by 18 = .ok (.getfield 89, 3) := by decide +kernel
theorem dX11_by_21 : decode cX11_by 21 = .ok (.aload_n 0, 1) := by decide +kernel
theorem dX11_by_22 : decode cX11_by 22 = .ok (.getfield 10, 3) := by decide +kernel
theorem dX11_by_25 : decode cX11_by 25 = .ok (.iload_n 1, 1) := by decide +kernel
theorem dX11_by_26 : decode cX11_by 26 = .ok (.iload_n 2, 1) := by decide +kernel
theorem dX11_by_27 : decode cX11_by 27 = .ok (.invokevirtual 282, 3) := by decide +kernel
theorem dX11_by_30 : decode cX11_by 30 = .ok (.ireturn, 1) := by decide +kernel
theorem dX11_part_0 : decode cX11_part 0 = .ok (.aload_n 0, 1) := by decide +kernel
theorem dX11_part_1 : decode cX11_part 1 = .ok (.iload_n 1, 1) := by decide +kernel
theorem dX11_part_2 : decode cX11_part 2 = .ok (.iload_n 2, 1) := by decide +kernel
theorem dX11_part_3 : decode cX11_part 3 = .ok (.invokevirtual 124, 3) := by decide +kernel
theorem dX11_part_6 : decode cX11_part 6 = .ok (.ifCond .ne 5, 3) := by decide +kernel
theorem dX11_part_9 : decode cX11_part 9 = .ok (.iconst (-1), 1) := by decide +kernel
theorem dX11_part_10 : decode cX11_part 10 = .ok (.ireturn, 1) := by decide +kernel
theorem dX11_part_11 : decode cX11_part 11 = .ok (.aload_n 0, 1) := by decide +kernel
theorem dX11_part_12 : decode cX11_part 12 = .ok (.getfield 89, 3) := by decide +kernel
theorem dX11_part_15 : decode cX11_part 15 = .ok (.aload_n 0, 1) := by decide +kernel
theorem dX11_part_16 : decode cX11_part 16 = .ok (.getfield 10, 3) := by decide +kernel
theorem dX11_part_19 : decode cX11_part 19 = .ok (.iload_n 1, 1) := by decide +kernel
theorem dX11_part_20 : decode cX11_part 20 = .ok (.iload_n 2, 1) := by decide +kernel
theorem dX11_part_21 : decode cX11_part 21 = .ok (.invokevirtual 285, 3) := by decide +kernel
theorem dX11_part_24 : decode cX11_part 24 = .ok (.ireturn, 1) := by decide +kernel
theorem dX11_talk_0 : decode cX11_talk 0 = .ok (.iload_n 1, 1) := by decide +kernel
theorem dX11_talk_1 : decode cX11_talk 1 = .ok (.iconst (-1), 1) := by decide +kernel
theorem dX11_talk_2 : decode cX11_talk 2 = .ok (.if_icmp .ne 13, 3) := by decide +kernel
theorem dX11_talk_5 : decode cX11_talk 5 = .ok (.aload_n 0, 1) := by decide +kernel
theorem dX11_talk_6 : decode cX11_talk 6 = .ok (.getfield 10, 3) := by decide +kernel
theorem dX11_talk_9 : decode cX11_talk 9 = .ok (.iconst 0, 1) := by decide +kernel
theorem dX11_talk_10 : decode cX11_talk 10 = .ok (.putfield 288, 3) := by decide +kernel
theorem dX11_talk_13 : decode cX11_talk 13 = .ok (.iconst 0, 1) := by decide +kernel
theorem dX11_talk_14 : decode cX11_talk 14 = .ok (.ireturn, 1) := by decide +kernel
theorem dX11_talk_15 : decode cX11_talk 15 = .ok (.aload_n 0, 1) := by decide +kernel
theorem dX11_talk_16 : decode cX11_talk 16 = .ok (.iload_n 1, 1) := by decide +kernel
theorem dX11_talk_17 : decode cX11_talk 17 = .ok (.invokevirtual 165, 3) := by decide +kernel
theorem dX11_talk_20 : decode cX11_talk 20 = .ok (.ifCond .eq 31, 3) := by decide +kernel
theorem dX11_talk_23 : decode cX11_talk 23 = .ok (.iload_n 2, 1) := by decide +kernel
theorem dX11_talk_24 : decode cX11_talk 24 = .ok (.invokestatic 107, 3) := by decide +kernel
theorem dX11_talk_27 : decode cX11_talk 27 = .ok (.ifCond .eq 24, 3) := by decide +kernel
theorem dX11_talk_30 : decode cX11_talk 30 = .ok (.iload_n 3, 1) := by decide +kernel
theorem dX11_talk_31 : decode cX11_talk 31 = .ok (.ifCond .lt 20, 3) := by decide +kernel
theorem dX11_talk_34 : decode cX11_talk 34 = .ok (.iload_n 3, 1) := by decide +kernel
theorem dX11_talk_35 : decode cX11_talk 35 = .ok (.iconst 1, 1) := by decide +kernel
theorem dX11_talk_36 : decode cX11_talk 36 = .ok (.if_icmp .gt 15, 3) := by decide +kernel
theorem dX11_talk_39 : decode cX11_talk 39 = .ok (.aload_n 0, 1) := by decide +kernel
theorem dX11_talk_40 : decode cX11_talk 40 = .ok (.getfield 10, 3) := by decide +kernel
theorem dX11_talk_43 : decode cX11_talk 43 = .ok (.getfield 288, 3) := by decide +kernel
theorem dX11_talk_46 : decode cX11_talk 46 = .ok (.bipush 12, 2) := by decide +kernel
theorem dX11_talk_48 : decode cX11_talk 48 = .ok (.if_icmp .lt 5, 3) := by decide +kernel
theorem dX11_talk_51 : decode cX11_talk 51 = .ok (.iconst (-1), 1) := by decide +kernel
theorem dX11_talk_52 : decode cX11_talk 52 = .ok (.ireturn, 1) := by decide +kernel
theorem dX11_talk_53 : decode cX11_talk 53 = .ok (.aload_n 0, 1) := by decide +kernel
theorem dX11_talk_54 : decode cX11_talk 54 = .ok (.getfield 10, 3) := by decide +kernel
theorem dX11_talk_57 : decode cX11_talk 57 = .ok (.iload_n 1, 1) := by decide +kernel
theorem dX11_talk_58 : decode cX11_talk 58 = .ok (.iload_n 2, 1) := by decide +kernel
theorem dX11_talk_59 : decode cX11_talk 59 = .ok (.iload_n 3, 1) := by decide +kernel
theorem dX11_talk_60 : decode cX11_talk 60 = .ok (.invokevirtual 291, 3) := by decide +kernel
theorem dX11_talk_63 : decode cX11_talk 63 = .ok (.aload_n 0, 1) := by decide +kernel
theorem dX11_talk_64 : decode cX11_talk 64 = .ok (.getfield 10, 3) := by decide +kernel
theorem dX11_talk_67 : decode cX11_talk 67 = .ok (.getfield 288, 3) := by decide +kernel
theorem dX11_talk_70 : decode cX11_talk 70 = .ok (.ireturn, 1) := by decide +kernel
theorem dX11_fits_0 : decode cX11_fits 0 = .ok (.aload_n 0, 1) := by decide +kernel
theorem dX11_fits_1 : decode cX11_fits 1 = .ok (.iload_n 1, 1) := by decide +kernel
theorem dX11_fits_2 : decode cX11_fits 2 = .ok (.invokevirtual 165, 3) := by decide +kernel
theorem dX11_fits_5 : decode cX11_fits 5 = .ok (.ifCond .eq 12, 3) := by decide +kernel
theorem dX11_fits_8 : decode cX11_fits 8 = .ok (.iload_n 2, 1) := by decide +kernel
theorem dX11_fits_9 : decode cX11_fits 9 = .ok (.ifCond .lt 8, 3) := by decide +kernel
theorem dX11_fits_12 : decode cX11_fits 12 = .ok (.iload_n 2, 1) := by decide +kernel
theorem dX11_fits_13 : decode cX11_fits 13 = .ok (.iconst 3, 1) := by decide +kernel
theorem dX11_fits_14 : decode cX11_fits 14 = .ok (.if_icmp .le 5, 3) := by decide +kernel
theorem dX11_fits_17 : decode cX11_fits 17 = .ok (.iconst (-1), 1) := by decide +kernel
theorem dX11_fits_18 : decode cX11_fits 18 = .ok (.ireturn, 1) := by decide +kernel
theorem dX11_fits_19 : decode cX11_fits 19 = .ok (.aload_n 0, 1) := by decide +kernel
theorem dX11_fits_20 : decode cX11_fits 20 = .ok (.getfield 82, 3) := by decide +kernel
theorem dX11_fits_23 : decode cX11_fits 23 = .ok (.aload_n 0, 1) := by decide +kernel
theorem dX11_fits_24 : decode cX11_fits 24 = .ok (.getfield 10, 3) := by decide +kernel
theorem dX11_fits_27 : decode cX11_fits 27 = .ok (.iload_n 1, 1) := by decide +kernel
theorem dX11_fits_28 : decode cX11_fits 28 = .ok (.iload_n 2, 1) := by decide +kernel
theorem dX11_fits_29 : decode cX11_fits 29 = .ok (.invokevirtual 294, 3) := by decide +kernel
theorem dX11_fits_32 : decode cX11_fits 32 = .ok (.ireturn, 1) := by decide +kernel
theorem dX11_ask_0 : decode cX11_ask 0 = .ok (.aload_n 0, 1) := by decide +kernel
theorem dX11_ask_1 : decode cX11_ask 1 = .ok (.iload_n 1, 1) := by decide +kernel
theorem dX11_ask_2 : decode cX11_ask 2 = .ok (.invokevirtual 165, 3) := by decide +kernel
theorem dX11_ask_5 : decode cX11_ask 5 = .ok (.ifCond .eq 12, 3) := by decide +kernel
theorem dX11_ask_8 : decode cX11_ask 8 = .ok (.iload_n 2, 1) := by decide +kernel
theorem dX11_ask_9 : decode cX11_ask 9 = .ok (.ifCond .lt 8, 3) := by decide +kernel
theorem dX11_ask_12 : decode cX11_ask 12 = .ok (.iload_n 2, 1) := by decide +kernel
theorem dX11_ask_13 : decode cX11_ask 13 = .ok (.iconst 3, 1) := by decide +kernel
theorem dX11_ask_14 : decode cX11_ask 14 = .ok (.if_icmp .le 5, 3) := by decide +kernel
theorem dX11_ask_17 : decode cX11_ask 17 = .ok (.iconst (-1), 1) := by decide +kernel
theorem dX11_ask_18 : decode cX11_ask 18 = .ok (.ireturn, 1) := by decide +kernel
theorem dX11_ask_19 : decode cX11_ask 19 = .ok (.aload_n 0, 1) := by decide +kernel
theorem dX11_ask_20 : decode cX11_ask 20 = .ok (.getfield 82, 3) := by decide +kernel
theorem dX11_ask_23 : decode cX11_ask 23 = .ok (.aload_n 0, 1) := by decide +kernel
theorem dX11_ask_24 : decode cX11_ask 24 = .ok (.getfield 10, 3) := by decide +kernel
theorem dX11_ask_27 : decode cX11_ask 27 = .ok (.iload_n 1, 1) := by decide +kernel
theorem dX11_ask_28 : decode cX11_ask 28 = .ok (.iload_n 2, 1) := by decide +kernel
theorem dX11_ask_29 : decode cX11_ask 29 = .ok (.invokevirtual 297, 3) := by decide +kernel
theorem dX11_ask_32 : decode cX11_ask 32 = .ok (.ireturn, 1) := by decide +kernel
theorem dX11_waters_0 : decode cX11_waters 0 = .ok (.aload_n 0, 1) := by decide +kernel
theorem dX11_waters_1 : decode cX11_waters 1 = .ok (.iload_n 1, 1) := by decide +kernel
theorem dX11_waters_2 : decode cX11_waters 2 = .ok (.invokevirtual 165, 3) := by decide +kernel
theorem dX11_waters_5 : decode cX11_waters 5 = .ok (.ifCond .eq 37, 3) := by decide +kernel
theorem dX11_waters_8 : decode cX11_waters 8 = .ok (.iload_n 2, 1) := by decide +kernel
theorem dX11_waters_9 : decode cX11_waters 9 = .ok (.iconst 1, 1) := by decide +kernel
theorem dX11_waters_10 : decode cX11_waters 10 = .ok (.if_icmp .lt 32, 3) := by decide +kernel
theorem dX11_waters_13 : decode cX11_waters 13 = .ok (.iload_n 2, 1) := by decide +kernel
theorem dX11_waters_14 : decode cX11_waters 14 = .ok (.bipush 30, 2) := by decide +kernel
theorem dX11_waters_16 : decode cX11_waters 16 = .ok (.if_icmp .gt 26, 3) := by decide +kernel
theorem dX11_waters_19 : decode cX11_waters 19 = .ok (.iload_n 3, 1) := by decide +kernel
theorem dX11_waters_20 : decode cX11_waters 20 = .ok (.ifCond .lt 22, 3) := by decide +kernel
theorem dX11_waters_23 : decode cX11_waters 23 = .ok (.iload_n 3, 1) := by decide +kernel
theorem dX11_waters_24 : decode cX11_waters 24 = .ok (.iconst 1, 1) := by decide +kernel
theorem dX11_waters_25 : decode cX11_waters 25 = .ok (.if_icmp .gt 17, 3) := by decide +kernel
theorem dX11_waters_28 : decode cX11_waters 28 = .ok (.aload_n 0, 1) := by decide +kernel
theorem dX11_waters_29 : decode cX11_waters 29 = .ok (.getfield 10, 3) := by decide +kernel
theorem dX11_waters_32 : decode cX11_waters 32 = .ok (.getfield 32, 3) := by decide +kernel
theorem dX11_waters_35 : decode cX11_waters 35 = .ok (.iload_n 1, 1) := by decide +kernel
theorem dX11_waters_36 : decode cX11_waters 36 = .ok (.invokevirtual 168, 3) := by decide +kernel
theorem dX11_waters_39 : decode cX11_waters 39 = .ok (.ifCond .ne 5, 3) := by decide +kernel
theorem dX11_waters_42 : decode cX11_waters 42 = .ok (.iconst (-1), 1) := by decide +kernel
theorem dX11_waters_43 : decode cX11_waters 43 = .ok (.ireturn, 1) := by decide +kernel
theorem dX11_waters_44 : decode cX11_waters 44 = .ok (.iconst 0, 1) := by decide +kernel
theorem dX11_waters_45 : decode cX11_waters 45 = .ok (.istore 4, 2) := by decide +kernel
theorem dX11_waters_47 : decode cX11_waters 47 = .ok (.iload 4, 2) := by decide +kernel
theorem dX11_waters_49 : decode cX11_waters 49 = .ok (.bipush 40, 2) := by decide +kernel
theorem dX11_waters_51 : decode cX11_waters 51 = .ok (.if_icmp .gt 42, 3) := by decide +kernel
theorem dX11_waters_54 : decode cX11_waters 54 = .ok (.iload_n 3, 1) := by decide +kernel
theorem dX11_waters_55 : decode cX11_waters 55 = .ok (.ifCond .ne 8, 3) := by decide +kernel
theorem dX11_waters_58 : decode cX11_waters 58 = .ok (.iload 4, 2) := by decide +kernel
theorem dX11_waters_60 : decode cX11_waters 60 = .ok (.goto 8, 3) := by decide +kernel
theorem dX11_waters_63 : decode cX11_waters 63 = .ok (.bipush 40, 2) := by decide +kernel
theorem dX11_waters_65 : decode cX11_waters 65 = .ok (.iload 4, 2) := by decide +kernel
theorem dX11_waters_67 : decode cX11_waters 67 = .ok (.isub, 1) := by decide +kernel
theorem dX11_waters_68 : decode cX11_waters 68 = .ok (.istore 5, 2) := by decide +kernel
theorem dX11_waters_70 : decode cX11_waters 70 = .ok (.aload_n 0, 1) := by decide +kernel
theorem dX11_waters_71 : decode cX11_waters 71 = .ok (.getfield 46, 3) := by decide +kernel
theorem dX11_waters_74 : decode cX11_waters 74 = .ok (.iload_n 1, 1) := by decide +kernel
theorem dX11_waters_75 : decode cX11_waters 75 = .ok (.iload_n 2, 1) := by decide +kernel
theorem dX11_waters_76 : decode cX11_waters 76 = .ok (.iload 5, 2) := by decide +kernel
theorem dX11_waters_78 : decode cX11_waters 78 = .ok (.invokevirtual 300, 3) := by decide +kernel
theorem dX11_waters_81 : decode cX11_waters 81 = .ok (.ifCond .eq 6, 3) := by decide +kernel
theorem dX11_waters_84 : decode cX11_waters 84 = .ok (.iload 5, 2) := by decide +kernel
theorem dX11_waters_86 : decode cX11_waters 86 = .ok (.ireturn, 1) := by decide +kernel
theorem dX11_waters_87 : decode cX11_waters 87 = .ok (.iinc 4 1, 3) := by decide +kernel
theorem dX11_waters_90 : decode cX11_waters 90 = .ok (.goto (-43), 3) := by decide +kernel
theorem dX11_waters_93 : decode cX11_waters 93 = .ok (.iconst (-1), 1) := by decide +kernel
theorem dX11_waters_94 : decode cX11_waters 94 = .ok (.ireturn, 1) := by decide +kernel
theorem dX11_game_0 : decode cX11_game 0 = .ok (.iload_n 1, 1) := by decide +kernel
theorem dX11_game_1 : decode cX11_game 1 = .ok (.ifCond .lt 8, 3) := by decide +kernel
theorem dX11_game_4 : decode cX11_game 4 = .ok (.iload_n 1, 1) := by decide +kernel
theorem dX11_game_5 : decode cX11_game 5 = .ok (.iconst 1, 1) := by decide +kernel
theorem dX11_game_6 : decode cX11_game 6 = .ok (.if_icmp .le 5, 3) := by decide +kernel
theorem dX11_game_9 : decode cX11_game 9 = .ok (.iconst (-1), 1) := by decide +kernel
theorem dX11_game_10 : decode cX11_game 10 = .ok (.ireturn, 1) := by decide +kernel
theorem dX11_game_11 : decode cX11_game 11 = .ok (.aload_n 0, 1) := by decide +kernel
theorem dX11_game_12 : decode cX11_game 12 = .ok (.getfield 89, 3) := by decide +kernel
theorem dX11_game_15 : decode cX11_game 15 = .ok (.aload_n 0, 1) := by decide +kernel
theorem dX11_game_16 : decode cX11_game 16 = .ok (.getfield 10, 3) := by decide +kernel
theorem dX11_game_19 : decode cX11_game 19 = .ok (.invokevirtual 304, 3) := by decide +kernel
theorem dX11_game_22 : decode cX11_game 22 = .ok (.istore_n 2, 1) := by decide +kernel
theorem dX11_game_23 : decode cX11_game 23 = .ok (.iload_n 1, 1) := by decide +kernel
theorem dX11_game_24 : decode cX11_game 24 = .ok (.ifCond .eq 8, 3) := by decide +kernel
theorem dX11_game_27 : decode cX11_game 27 = .ok (.iload_n 2, 1) := by decide +kernel
theorem dX11_game_28 : decode cX11_game 28 = .ok (.iconst (-1), 1) := by decide +kernel
theorem dX11_game_29 : decode cX11_game 29 = .ok (.if_icmp .ne 7, 3) := by decide +kernel
theorem dX11_game_32 : decode cX11_game 32 = .ok (.iload_n 2, 1) := by decide +kernel
theorem dX11_game_33 : decode cX11_game 33 = .ok (.goto 15, 3) := by decide +kernel
theorem dX11_game_36 : decode cX11_game 36 = .ok (.aload_n 0, 1) := by decide +kernel
theorem dX11_game_37 : decode cX11_game 37 = .ok (.getfield 89, 3) := by decide +kernel
theorem dX11_game_40 : decode cX11_game 40 = .ok (.aload_n 0, 1) := by decide +kernel
theorem dX11_game_41 : decode cX11_game 41 = .ok (.getfield 10, 3) := by decide +kernel
theorem dX11_game_44 : decode cX11_game 44 = .ok (.iload_n 2, 1) := by decide +kernel
theorem dX11_game_45 : decode cX11_game 45 = .ok (.invokevirtual 307, 3) := by decide +kernel
theorem dX11_game_48 : decode cX11_game 48 = .ok (.ireturn, 1) := by decide +kernel
theorem dX11_greenhouses_0 : decode cX11_greenhouses 0 = .ok (.iload_n 1, 1) := by decide +kernel
theorem dX11_greenhouses_1 : decode cX11_greenhouses 1 = .ok (.iconst 1, 1) := by decide +kernel
theorem dX11_greenhouses_2 : decode cX11_greenhouses 2 = .ok (.if_icmp .lt 10, 3) := by decide +kernel
theorem dX11_greenhouses_5 : decode cX11_greenhouses 5 = .ok (.iload_n 1, 1) := by decide +kernel
theorem dX11_greenhouses_6 : decode cX11_greenhouses 6 = .ok (.sipush 999, 3) := by decide +kernel
theorem dX11_greenhouses_9 : decode cX11_greenhouses 9 = .ok (.if_icmp .le 5, 3) := by decide +kernel
theorem dX11_greenhouses_12 : decode cX11_greenhouses 12 = .ok (.iconst (-1), 1) := by decide +kernel
theorem dX11_greenhouses_13 : decode cX11_greenhouses 13 = .ok (.ireturn, 1) := by decide +kernel
theorem dX11_greenhouses_14 : decode cX11_greenhouses 14 = .ok (.aload_n 0, 1) := by decide +kernel
theorem dX11_greenhouses_15 : decode cX11_greenhouses 15 = .ok (.getfield 89, 3) := by decide +kernel
theorem dX11_greenhouses_18 : decode cX11_greenhouses 18 = .ok (.aload_n 0, 1) := by decide +kernel
theorem dX11_greenhouses_19 : decode cX11_greenhouses 19 = .ok (.getfield 10, 3) := by decide +kernel
theorem dX11_greenhouses_22 : decode cX11_greenhouses 22 = .ok (.iload_n 1, 1) := by decide +kernel
theorem dX11_greenhouses_23 : decode cX11_greenhouses 23 = .ok (.invokevirtual 310, 3) := by decide +kernel
theorem dX11_greenhouses_26 : decode cX11_greenhouses 26 = .ok (.ireturn, 1) := by decide +kernel
theorem dX11_undo_0 : decode cX11_undo 0 = .ok (.aload_n 0, 1) := by decide +kernel
theorem dX11_undo_1 : decode cX11_undo 1 = .ok (.getfield 52, 3) := by decide +kernel
theorem dX11_undo_4 : decode cX11_undo 4 = .ok (.aload_n 0, 1) := by decide +kernel
theorem dX11_undo_5 : decode cX11_undo 5 = .ok (.getfield 10, 3) := by decide +kernel
theorem dX11_undo_8 : decode cX11_undo 8 = .ok (.getfield 32, 3) := by decide +kernel
theorem dX11_undo_11 : decode cX11_undo 11 = .ok (.invokevirtual 313, 3) := by decide +kernel
theorem dX11_undo_14 : decode cX11_undo 14 = .ok (.ireturn, 1) := by decide +kernel
theorem dX11_image_0 : decode cX11_image 0 = .ok (.iload_n 1, 1) := by decide +kernel
theorem dX11_image_1 : decode cX11_image 1 = .ok (.ifCond .eq 21, 3) := by decide +kernel
theorem dX11_image_4 : decode cX11_image 4 = .ok (.aload_n 0, 1) := by decide +kernel
theorem dX11_image_5 : decode cX11_image 5 = .ok (.getfield 16, 3) := by decide +kernel
theorem dX11_image_8 : decode cX11_image 8 = .ok (.aload_n 0, 1) := by decide +kernel
theorem dX11_image_9 : decode cX11_image 9 = .ok (.getfield 10, 3) := by decide +kernel
theorem dX11_image_12 : decode cX11_image 12 = .ok (.invokevirtual 317, 3) := by decide +kernel
theorem dX11_image_15 : decode cX11_image 15 = .ok (.aload_n 0, 1) := by decide +kernel
theorem dX11_image_16 : decode cX11_image 16 = .ok (.iconst 1, 1) := by decide +kernel
theorem dX11_image_17 : decode cX11_image 17 = .ok (.putfield 19, 3) := by decide +kernel
theorem dX11_image_20 : decode cX11_image 20 = .ok (.iconst 1, 1) := by decide +kernel
theorem dX11_image_21 : decode cX11_image 21 = .ok (.ireturn, 1) := by decide +kernel
theorem dX11_image_22 : decode cX11_image 22 = .ok (.aload_n 0, 1) := by decide +kernel
theorem dX11_image_23 : decode cX11_image 23 = .ok (.getfield 19, 3) := by decide +kernel
theorem dX11_image_26 : decode cX11_image 26 = .ok (.ifCond .ne 5, 3) := by decide +kernel
theorem dX11_image_29 : decode cX11_image 29 = .ok (.iconst 0, 1) := by decide +kernel
theorem dX11_image_30 : decode cX11_image 30 = .ok (.ireturn, 1) := by decide +kernel
theorem dX11_image_31 : decode cX11_image 31 = .ok (.aload_n 0, 1) := by decide +kernel
theorem dX11_image_32 : decode cX11_image 32 = .ok (.getfield 10, 3) := by decide +kernel
theorem dX11_image_35 : decode cX11_image 35 = .ok (.aload_n 0, 1) := by decide +kernel
theorem dX11_image_36 : decode cX11_image 36 = .ok (.getfield 16, 3) := by decide +kernel
theorem dX11_image_39 : decode cX11_image 39 = .ok (.invokevirtual 317, 3) := by decide +kernel
theorem dX11_image_42 : decode cX11_image 42 = .ok (.aload_n 0, 1) := by decide +kernel
theorem dX11_image_43 : decode cX11_image 43 = .ok (.getfield 52, 3) := by decide +kernel
theorem dX11_image_46 : decode cX11_image 46 = .ok (.invokevirtual 97, 3) := by decide +kernel
theorem dX11_image_49 : decode cX11_image 49 = .ok (.iconst 1, 1) := by decide +kernel
theorem dX11_image_50 : decode cX11_image 50 = .ok (.ireturn, 1) := by decide +kernel
theorem dX11_look_0 : decode cX11_look 0 = .ok (.iload_n 1, 1) := by decide +kernel
theorem dX11_look_1 : decode cX11_look 1 = .ok (.tableswitch 190 0 14 #[75, 83, 94, 105, 113, 124, 135, 135, 135, 135, 150, 158, 166, 174, 182], 75) := by decide +kernel
theorem dX11_look_76 : decode cX11_look 76 = .ok (.aload_n 0, 1) := by decide +kernel
theorem dX11_look_77 : decode cX11_look 77 = .ok (.getfield 10, 3) := by decide +kernel
theorem dX11_look_80 : decode cX11_look 80 = .ok (.getfield 100, 3) := by decide +kernel
theorem dX11_look_83 : decode cX11_look 83 = .ok (.ireturn, 1) := by decide +kernel
theorem dX11_look_84 : decode cX11_look 84 = .ok (.aload_n 0, 1) := by decide +kernel
theorem dX11_look_85 : decode cX11_look 85 = .ok (.getfield 10, 3) := by decide +kernel
theorem dX11_look_88 : decode cX11_look 88 = .ok (.getfield 32, 3) := by decide +kernel
theorem dX11_look_91 : decode cX11_look 91 = .ok (.getfield 189, 3) := by decide +kernel
theorem dX11_look_94 : decode cX11_look 94 = .ok (.ireturn, 1) := by decide +kernel
theorem dX11_look_95 : decode cX11_look 95 = .ok (.aload_n 0, 1) := by decide +kernel
theorem dX11_look_96 : decode cX11_look 96 = .ok (.getfield 10, 3) := by decide +kernel
theorem dX11_look_99 : decode cX11_look 99 = .ok (.getfield 32, 3) := by decide +kernel
theorem dX11_look_102 : decode cX11_look 102 = .ok (.getfield 320, 3) := by decide +kernel
theorem dX11_look_105 : decode cX11_look 105 = .ok (.ireturn, 1) := by decide +kernel
theorem dX11_look_106 : decode cX11_look 106 = .ok (.aload_n 0, 1) := by decide +kernel
theorem dX11_look_107 : decode cX11_look 107 = .ok (.getfield 10, 3) := by decide +kernel
theorem dX11_look_110 : decode cX11_look 110 = .ok (.invokevirtual 323, 3) := by decide +kernel
theorem dX11_look_113 : decode cX11_look 113 = .ok (.ireturn, 1) := by decide +kernel
theorem dX11_look_114 : decode cX11_look 114 = .ok (.aload_n 0, 1) := by decide +kernel
theorem dX11_look_115 : decode cX11_look 115 = .ok (.getfield 10, 3) := by decide +kernel
theorem dX11_look_118 : decode cX11_look 118 = .ok (.getfield 32, 3) := by decide +kernel
theorem dX11_look_121 : decode cX11_look 121 = .ok (.getfield 245, 3) := by decide +kernel
theorem dX11_look_124 : decode cX11_look 124 = .ok (.ireturn, 1) := by decide +kernel
theorem dX11_look_125 : decode cX11_look 125 = .ok (.aload_n 0, 1) := by decide +kernel
theorem dX11_look_126 : decode cX11_look 126 = .ok (.getfield 10, 3) := by decide +kernel
theorem dX11_look_129 : decode cX11_look 129 = .ok (.getfield 32, 3) := by decide +kernel
theorem dX11_look_132 : decode cX11_look 132 = .ok (.getfield 93, 3) := by decide +kernel
theorem dX11_look_135 : decode cX11_look 135 = .ok (.ireturn, 1) := by decide +kernel
theorem dX11_look_136 : decode cX11_look 136 = .ok (.aload_n 0, 1) := by decide +kernel
theorem dX11_look_137 : decode cX11_look 137 = .ok (.getfield 10, 3) := by decide +kernel
theorem dX11_look_140 : decode cX11_look 140 = .ok (.iload_n 1, 1) := by decide +kernel
theorem dX11_look_141 : decode cX11_look 141 = .ok (.bipush 6, 2) := by decide +kernel
theorem dX11_look_143 : decode cX11_look 143 = .ok (.isub, 1) := by decide +kernel
theorem dX11_look_144 : decode cX11_look 144 = .ok (.invokevirtual 142, 3) := by decide +kernel
theorem dX11_look_147 : decode cX11_look 147 = .ok (.getfield 156, 3) := by decide +kernel
theorem dX11_look_150 : decode cX11_look 150 = .ok (.ireturn, 1) := by decide +kernel
theorem dX11_look_151 : decode cX11_look 151 = .ok (.aload_n 0, 1) := by decide +kernel
theorem dX11_look_152 : decode cX11_look 152 = .ok (.getfield 10, 3) := by decide +kernel
theorem dX11_look_155 : decode cX11_look 155 = .ok (.getfield 288, 3) := by decide +kernel
theorem dX11_look_158 : decode cX11_look 158 = .ok (.ireturn, 1) := by decide +kernel
theorem dX11_look_159 : decode cX11_look 159 = .ok (.aload_n 0, 1) := by decide +kernel
theorem dX11_look_160 : decode cX11_look 160 = .ok (.getfield 52, 3) := by decide +kernel
theorem dX11_look_163 : decode cX11_look 163 = .ok (.getfield 326, 3) := by decide +kernel
theorem dX11_look_166 : decode cX11_look 166 = .ok (.ireturn, 1) := by decide +kernel
theorem dX11_look_167 : decode cX11_look 167 = .ok (.aload_n 0, 1) := by decide +kernel
theorem dX11_look_168 : decode cX11_look 168 = .ok (.getfield 10, 3) := by decide +kernel
theorem dX11_look_171 : decode cX11_look 171 = .ok (.getfield 111, 3) := by decide +kernel
theorem dX11_look_174 : decode cX11_look 174 = .ok (.ireturn, 1) := by decide +kernel
theorem dX11_look_175 : decode cX11_look 175 = .ok (.aload_n 0, 1) := by decide +kernel
theorem dX11_look_176 : decode cX11_look 176 = .ok (.getfield 10, 3) := by decide +kernel
theorem dX11_look_179 : decode cX11_look 179 = .ok (.getfield 114, 3) := by decide +kernel
theorem dX11_look_182 : decode cX11_look 182 = .ok (.ireturn, 1) := by decide +kernel
theorem dX11_look_183 : decode cX11_look 183 = .ok (.aload_n 0, 1) := by decide +kernel
theorem dX11_look_184 : decode cX11_look 184 = .ok (.getfield 10, 3) := by decide +kernel
theorem dX11_look_187 : decode cX11_look 187 = .ok (.getfield 117, 3) := by decide +kernel
theorem dX11_look_190 : decode cX11_look 190 = .ok (.ireturn, 1) := by decide +kernel
theorem dX11_look_191 : decode cX11_look 191 = .ok (.iload_n 1, 1) := by decide +kernel
theorem dX11_look_192 : decode cX11_look 192 = .ok (.bipush 20, 2) := by decide +kernel
theorem dX11_look_194 : decode cX11_look 194 = .ok (.isub, 1) := by decide +kernel
theorem dX11_look_195 : decode cX11_look 195 = .ok (.invokestatic 107, 3) := by decide +kernel
theorem dX11_look_198 : decode cX11_look 198 = .ok (.ifCond .eq 18, 3) := by decide +kernel
theorem dX11_look_201 : decode cX11_look 201 = .ok (.aload_n 0, 1) := by decide +kernel
theorem dX11_look_202 : decode cX11_look 202 = .ok (.getfield 10, 3) := by decide +kernel
theorem dX11_look_205 : decode cX11_look 205 = .ok (.getfield 120, 3) := by decide +kernel
theorem dX11_look_208 : decode cX11_look 208 = .ok (.iload_n 1, 1) := by decide +kernel
theorem dX11_look_209 : decode cX11_look 209 = .ok (.bipush 20, 2) := by decide +kernel
theorem dX11_look_211 : decode cX11_look 211 = .ok (.isub, 1) := by decide +kernel
theorem dX11_look_212 : decode cX11_look 212 = .ok (.iaload, 1) := by decide +kernel
theorem dX11_look_213 : decode cX11_look 213 = .ok (.goto 4, 3) := by decide +kernel
theorem dX11_look_216 : decode cX11_look 216 = .ok (.iconst (-1), 1) := by decide +kernel
theorem dX11_look_217 : decode cX11_look 217 = .ok (.ireturn, 1) := by decide +kernel
theorem dX11_isHouse_0 : decode cX11_isHouse 0 = .ok (.iload_n 1, 1) := by decide +kernel
theorem dX11_isHouse_1 : decode cX11_isHouse 1 = .ok (.ifCond .lt 18, 3) := by decide +kernel
theorem dX11_isHouse_4 : decode cX11_isHouse 4 = .ok (.iload_n 1, 1) := by decide +kernel
theorem dX11_isHouse_5 : decode cX11_isHouse 5 = .ok (.aload_n 0, 1) := by decide +kernel
theorem dX11_isHouse_6 : decode cX11_isHouse 6 = .ok (.getfield 10, 3) := by decide +kernel
theorem dX11_isHouse_9 : decode cX11_isHouse 9 = .ok (.getfield 100, 3) := by decide +kernel
theorem dX11_isHouse_12 : decode cX11_isHouse 12 = .ok (.if_icmp .ge 7, 3) := by decide +kernel
theorem dX11_isHouse_15 : decode cX11_isHouse 15 = .ok (.iconst 1, 1) := by decide +kernel
theorem dX11_isHouse_16 : decode cX11_isHouse 16 = .ok (.goto 4, 3) := by decide +kernel
theorem dX11_isHouse_19 : decode cX11_isHouse 19 = .ok (.iconst 0, 1) := by decide +kernel
theorem dX11_isHouse_20 : decode cX11_isHouse 20 = .ok (.ireturn, 1) := by decide +kernel
theorem dX11_areTwo_0 : decode cX11_areTwo 0 = .ok (.aload_n 0, 1) := by decide +kernel
theorem dX11_areTwo_1 : decode cX11_areTwo 1 = .ok (.iload_n 1, 1) := by decide +kernel
theorem dX11_areTwo_2 : decode cX11_areTwo 2 = .ok (.invokevirtual 165, 3) := by decide +kernel
theorem dX11_areTwo_5 : decode cX11_areTwo 5 = .ok (.ifCond .eq 20, 3) := by decide +kernel
theorem dX11_areTwo_8 : decode cX11_areTwo 8 = .ok (.aload_n 0, 1) := by decide +kernel
theorem dX11_areTwo_9 : decode cX11_areTwo 9 = .ok (.iload_n 2, 1) := by decide +kernel
theorem dX11_areTwo_10 : decode cX11_areTwo 10 = .ok (.invokevirtual 165, 3) := by decide +kernel
theorem dX11_areTwo_13 : decode cX11_areTwo 13 = .ok (.ifCond .eq 12, 3) := by decide +kernel
theorem dX11_areTwo_16 : decode cX11_areTwo 16 = .ok (.iload_n 1, 1) := by decide +kernel
theorem dX11_areTwo_17 : decode cX11_areTwo 17 = .ok (.iload_n 2, 1) := by decide +kernel
theorem dX11_areTwo_18 : decode cX11_areTwo 18 = .ok (.if_icmp .eq 7, 3) := by decide +kernel
theorem dX11_areTwo_21 : decode cX11_areTwo 21 = .ok (.iconst 1, 1) := by decide +kernel
theorem dX11_areTwo_22 : decode cX11_areTwo 22 = .ok (.goto 4, 3) := by decide +kernel
theorem dX11_areTwo_25 : decode cX11_areTwo 25 = .ok (.iconst 0, 1) := by decide +kernel
theorem dX11_areTwo_26 : decode cX11_areTwo 26 = .ok (.ireturn, 1) := by decide +kernel
theorem dX11_isThing_0 : decode cX11_isThing 0 = .ok (.iload_n 0, 1) := by decide +kernel
theorem dX11_isThing_1 : decode cX11_isThing 1 = .ok (.ifCond .lt 13, 3) := by decide +kernel
theorem dX11_isThing_4 : decode cX11_isThing 4 = .ok (.iload_n 0, 1) := by decide +kernel
theorem dX11_isThing_5 : decode cX11_isThing 5 = .ok (.bipush 8, 2) := by decide +kernel
theorem dX11_isThing_7 : decode cX11_isThing 7 = .ok (.if_icmp .ge 7, 3) := by decide +kernel
theorem dX11_isThing_10 : decode cX11_isThing 10 = .ok (.iconst 1, 1) := by decide +kernel
theorem dX11_isThing_11 : decode cX11_isThing 11 = .ok (.goto 4, 3) := by decide +kernel
theorem dX11_isThing_14 : decode cX11_isThing 14 = .ok (.iconst 0, 1) := by decide +kernel
theorem dX11_isThing_15 : decode cX11_isThing 15 = .ok (.ireturn, 1) := by decide +kernel
theorem dJ11_isValidCodePoint_9a6ad_0 : decode cJ11_isValidCodePoint_9a6ad 0 = .ok (.iload_n 0, 1) := by decide +kernel
theorem dJ11_isValidCodePoint_9a6ad_1 : decode cJ11_isValidCodePoint_9a6ad 1 = .ok (.bipush 16, 2) := by decide +kernel
theorem dJ11_isValidCodePoint_9a6ad_3 : decode cJ11_isValidCodePoint_9a6ad 3 = .ok (.iushr, 1) := by decide +kernel
theorem dJ11_isValidCodePoint_9a6ad_4 : decode cJ11_isValidCodePoint_9a6ad 4 = .ok (.istore_n 1, 1) := by decide +kernel
theorem dJ11_isValidCodePoint_9a6ad_5 : decode cJ11_isValidCodePoint_9a6ad 5 = .ok (.iload_n 1, 1) := by decide +kernel
theorem dJ11_isValidCodePoint_9a6ad_6 : decode cJ11_isValidCodePoint_9a6ad 6 = .ok (.bipush 17, 2) := by decide +kernel
theorem dJ11_isValidCodePoint_9a6ad_8 : decode cJ11_isValidCodePoint_9a6ad 8 = .ok (.if_icmp .ge 7, 3) := by decide +kernel
theorem dJ11_isValidCodePoint_9a6ad_11 : decode cJ11_isValidCodePoint_9a6ad 11 = .ok (.iconst 1, 1) := by decide +kernel
theorem dJ11_isValidCodePoint_9a6ad_12 : decode cJ11_isValidCodePoint_9a6ad 12 = .ok (.goto 4, 3) := by decide +kernel
theorem dJ11_isValidCodePoint_9a6ad_15 : decode cJ11_isValidCodePoint_9a6ad 15 = .ok (.iconst 0, 1) := by decide +kernel
theorem dJ11_isValidCodePoint_9a6ad_16 : decode cJ11_isValidCodePoint_9a6ad 16 = .ok (.ireturn, 1) := by decide +kernel
theorem dJ11_highSurrogate_5068e_0 : decode cJ11_highSurrogate_5068e 0 = .ok (.iload_n 0, 1) := by decide +kernel
theorem dJ11_highSurrogate_5068e_1 : decode cJ11_highSurrogate_5068e 1 = .ok (.bipush 10, 2) := by decide +kernel
theorem dJ11_highSurrogate_5068e_3 : decode cJ11_highSurrogate_5068e 3 = .ok (.iushr, 1) := by decide +kernel
theorem dJ11_highSurrogate_5068e_4 : decode cJ11_highSurrogate_5068e 4 = .ok (.ldc 110, 2) := by decide +kernel
theorem dJ11_highSurrogate_5068e_6 : decode cJ11_highSurrogate_5068e 6 = .ok (.iadd, 1) := by decide +kernel
theorem dJ11_highSurrogate_5068e_7 : decode cJ11_highSurrogate_5068e 7 = .ok (.i2c, 1) := by decide +kernel
theorem dJ11_highSurrogate_5068e_8 : decode cJ11_highSurrogate_5068e 8 = .ok (.ireturn, 1) := by decide +kernel
theorem dJ11_lowSurrogate_5068e_0 : decode cJ11_lowSurrogate_5068e 0 = .ok (.iload_n 0, 1) := by decide +kernel
theorem dJ11_lowSurrogate_5068e_1 : decode cJ11_lowSurrogate_5068e 1 = .ok (.sipush 1023, 3) := by decide +kernel
theorem dJ11_lowSurrogate_5068e_4 : decode cJ11_lowSurrogate_5068e 4 = .ok (.iand, 1) := by decide +kernel
theorem dJ11_lowSurrogate_5068e_5 : decode cJ11_lowSurrogate_5068e 5 = .ok (.ldc 76, 2) := by decide +kernel
theorem dJ11_lowSurrogate_5068e_7 : decode cJ11_lowSurrogate_5068e 7 = .ok (.iadd, 1) := by decide +kernel
theorem dJ11_lowSurrogate_5068e_8 : decode cJ11_lowSurrogate_5068e 8 = .ok (.i2c, 1) := by decide +kernel
theorem dJ11_lowSurrogate_5068e_9 : decode cJ11_lowSurrogate_5068e 9 = .ok (.ireturn, 1) := by decide +kernel
theorem dJ6_bitCount_0f7a4_0 : decode cJ6_bitCount_0f7a4 0 = .ok (.iload_n 0, 1) := by decide +kernel
theorem dJ6_bitCount_0f7a4_1 : decode cJ6_bitCount_0f7a4 1 = .ok (.iload_n 0, 1) := by decide +kernel
theorem dJ6_bitCount_0f7a4_2 : decode cJ6_bitCount_0f7a4 2 = .ok (.iconst 1, 1) := by decide +kernel
theorem dJ6_bitCount_0f7a4_3 : decode cJ6_bitCount_0f7a4 3 = .ok (.iushr, 1) := by decide +kernel
theorem dJ6_bitCount_0f7a4_4 : decode cJ6_bitCount_0f7a4 4 = .ok (.ldc_w 265, 3) := by decide +kernel
theorem dJ6_bitCount_0f7a4_7 : decode cJ6_bitCount_0f7a4 7 = .ok (.iand, 1) := by decide +kernel
theorem dJ6_bitCount_0f7a4_8 : decode cJ6_bitCount_0f7a4 8 = .ok (.isub, 1) := by decide +kernel
theorem dJ6_bitCount_0f7a4_9 : decode cJ6_bitCount_0f7a4 9 = .ok (.istore_n 0, 1) := by decide +kernel
theorem dJ6_bitCount_0f7a4_10 : decode cJ6_bitCount_0f7a4 10 = .ok (.iload_n 0, 1) := by decide +kernel
theorem dJ6_bitCount_0f7a4_11 : decode cJ6_bitCount_0f7a4 11 = .ok (.ldc_w 266, 3) := by decide +kernel
theorem dJ6_bitCount_0f7a4_14 : decode cJ6_bitCount_0f7a4 14 = .ok (.iand, 1) := by decide +kernel
theorem dJ6_bitCount_0f7a4_15 : decode cJ6_bitCount_0f7a4 15 = .ok (.iload_n 0, 1) := by decide +kernel
theorem dJ6_bitCount_0f7a4_16 : decode cJ6_bitCount_0f7a4 16 = .ok (.iconst 2, 1) := by decide +kernel
theorem dJ6_bitCount_0f7a4_17 : decode cJ6_bitCount_0f7a4 17 = .ok (.iushr, 1) := by decide +kernel
theorem dJ6_bitCount_0f7a4_18 : decode cJ6_bitCount_0f7a4 18 = .ok (.ldc_w 266, 3) := by decide +kernel
theorem dJ6_bitCount_0f7a4_21 : decode cJ6_bitCount_0f7a4 21 = .ok (.iand, 1) := by decide +kernel
theorem dJ6_bitCount_0f7a4_22 : decode cJ6_bitCount_0f7a4 22 = .ok (.iadd, 1) := by decide +kernel
theorem dJ6_bitCount_0f7a4_23 : decode cJ6_bitCount_0f7a4 23 = .ok (.istore_n 0, 1) := by decide +kernel
theorem dJ6_bitCount_0f7a4_24 : decode cJ6_bitCount_0f7a4 24 = .ok (.iload_n 0, 1) := by decide +kernel
theorem dJ6_bitCount_0f7a4_25 : decode cJ6_bitCount_0f7a4 25 = .ok (.iload_n 0, 1) := by decide +kernel
theorem dJ6_bitCount_0f7a4_26 : decode cJ6_bitCount_0f7a4 26 = .ok (.iconst 4, 1) := by decide +kernel
theorem dJ6_bitCount_0f7a4_27 : decode cJ6_bitCount_0f7a4 27 = .ok (.iushr, 1) := by decide +kernel
theorem dJ6_bitCount_0f7a4_28 : decode cJ6_bitCount_0f7a4 28 = .ok (.iadd, 1) := by decide +kernel
theorem dJ6_bitCount_0f7a4_29 : decode cJ6_bitCount_0f7a4 29 = .ok (.ldc_w 267, 3) := by decide +kernel
theorem dJ6_bitCount_0f7a4_32 : decode cJ6_bitCount_0f7a4 32 = .ok (.iand, 1) := by decide +kernel
theorem dJ6_bitCount_0f7a4_33 : decode cJ6_bitCount_0f7a4 33 = .ok (.istore_n 0, 1) := by decide +kernel
theorem dJ6_bitCount_0f7a4_34 : decode cJ6_bitCount_0f7a4 34 = .ok (.iload_n 0, 1) := by decide +kernel
theorem dJ6_bitCount_0f7a4_35 : decode cJ6_bitCount_0f7a4 35 = .ok (.iload_n 0, 1) := by decide +kernel
theorem dJ6_bitCount_0f7a4_36 : decode cJ6_bitCount_0f7a4 36 = .ok (.bipush 8, 2) := by decide +kernel
theorem dJ6_bitCount_0f7a4_38 : decode cJ6_bitCount_0f7a4 38 = .ok (.iushr, 1) := by decide +kernel
theorem dJ6_bitCount_0f7a4_39 : decode cJ6_bitCount_0f7a4 39 = .ok (.iadd, 1) := by decide +kernel
theorem dJ6_bitCount_0f7a4_40 : decode cJ6_bitCount_0f7a4 40 = .ok (.istore_n 0, 1) := by decide +kernel
theorem dJ6_bitCount_0f7a4_41 : decode cJ6_bitCount_0f7a4 41 = .ok (.iload_n 0, 1) := by decide +kernel
theorem dJ6_bitCount_0f7a4_42 : decode cJ6_bitCount_0f7a4 42 = .ok (.iload_n 0, 1) := by decide +kernel
theorem dJ6_bitCount_0f7a4_43 : decode cJ6_bitCount_0f7a4 43 = .ok (.bipush 16, 2) := by decide +kernel
theorem dJ6_bitCount_0f7a4_45 : decode cJ6_bitCount_0f7a4 45 = .ok (.iushr, 1) := by decide +kernel
theorem dJ6_bitCount_0f7a4_46 : decode cJ6_bitCount_0f7a4 46 = .ok (.iadd, 1) := by decide +kernel
theorem dJ6_bitCount_0f7a4_47 : decode cJ6_bitCount_0f7a4 47 = .ok (.istore_n 0, 1) := by decide +kernel
theorem dJ6_bitCount_0f7a4_48 : decode cJ6_bitCount_0f7a4 48 = .ok (.iload_n 0, 1) := by decide +kernel
theorem dJ6_bitCount_0f7a4_49 : decode cJ6_bitCount_0f7a4 49 = .ok (.bipush 63, 2) := by decide +kernel
theorem dJ6_bitCount_0f7a4_51 : decode cJ6_bitCount_0f7a4 51 = .ok (.iand, 1) := by decide +kernel
theorem dJ6_bitCount_0f7a4_52 : decode cJ6_bitCount_0f7a4 52 = .ok (.ireturn, 1) := by decide +kernel
theorem dJ9_max_7cf53_0 : decode cJ9_max_7cf53 0 = .ok (.iload_n 0, 1) := by decide +kernel
theorem dJ9_max_7cf53_1 : decode cJ9_max_7cf53 1 = .ok (.iload_n 1, 1) := by decide +kernel
theorem dJ9_max_7cf53_2 : decode cJ9_max_7cf53 2 = .ok (.if_icmp .lt 7, 3) := by decide +kernel
theorem dJ9_max_7cf53_5 : decode cJ9_max_7cf53 5 = .ok (.iload_n 0, 1) := by decide +kernel
theorem dJ9_max_7cf53_6 : decode cJ9_max_7cf53 6 = .ok (.goto 4, 3) := by decide +kernel
theorem dJ9_max_7cf53_9 : decode cJ9_max_7cf53 9 = .ok (.iload_n 1, 1) := by decide +kernel
theorem dJ9_max_7cf53_10 : decode cJ9_max_7cf53 10 = .ok (.ireturn, 1) := by decide +kernel
theorem dJ9_min_7cf53_0 : decode cJ9_min_7cf53 0 = .ok (.iload_n 0, 1) := by decide +kernel
theorem dJ9_min_7cf53_1 : decode cJ9_min_7cf53 1 = .ok (.iload_n 1, 1) := by decide +kernel
theorem dJ9_min_7cf53_2 : decode cJ9_min_7cf53 2 = .ok (.if_icmp .gt 7, 3) := by decide +kernel
theorem dJ9_min_7cf53_5 : decode cJ9_min_7cf53 5 = .ok (.iload_n 0, 1) := by decide +kernel
theorem dJ9_min_7cf53_6 : decode cJ9_min_7cf53 6 = .ok (.goto 4, 3) := by decide +kernel
theorem dJ9_min_7cf53_9 : decode cJ9_min_7cf53 9 = .ok (.iload_n 1, 1) := by decide +kernel
theorem dJ9_min_7cf53_10 : decode cJ9_min_7cf53 10 = .ok (.ireturn, 1) := by decide +kernel
theorem dJ0_length_8abf5_0 : decode cJ0_length_8abf5 0 = .ok (.aload_n 0, 1) := by decide +kernel
theorem dJ0_length_8abf5_1 : decode cJ0_length_8abf5 1 = .ok (.getfield 9, 3) := by decide +kernel
theorem dJ0_length_8abf5_4 : decode cJ0_length_8abf5 4 = .ok (.arraylength, 1) := by decide +kernel
theorem dJ0_length_8abf5_5 : decode cJ0_length_8abf5 5 = .ok (.aload_n 0, 1) := by decide +kernel
theorem dJ0_length_8abf5_6 : decode cJ0_length_8abf5 6 = .ok (.invokevirtual 335, 3) := by decide +kernel
theorem dJ0_length_8abf5_9 : decode cJ0_length_8abf5 9 = .ok (.ishr, 1) := by decide +kernel
theorem dJ0_length_8abf5_10 : decode cJ0_length_8abf5 10 = .ok (.ireturn, 1) := by decide +kernel
theorem dJ0_charAt_5068e_0 : decode cJ0_charAt_5068e 0 = .ok (.aload_n 0, 1) := by decide +kernel
theorem dJ0_charAt_5068e_1 : decode cJ0_charAt_5068e 1 = .ok (.invokevirtual 492, 3) := by decide +kernel
theorem dJ0_charAt_5068e_4 : decode cJ0_charAt_5068e 4 = .ok (.ifCond .eq 12, 3) := by decide +kernel
theorem dJ0_charAt_5068e_7 : decode cJ0_charAt_5068e 7 = .ok (.aload_n 0, 1) := by decide +kernel
theorem dJ0_charAt_5068e_8 : decode cJ0_charAt_5068e 8 = .ok (.getfield 9, 3) := by decide +kernel
theorem dJ0_charAt_5068e_11 : decode cJ0_charAt_5068e 11 = .ok (.iload_n 1, 1) := by decide +kernel
theorem dJ0_charAt_5068e_12 : decode cJ0_charAt_5068e 12 = .ok (.invokestatic 495, 3) := by decide +kernel
theorem dJ0_charAt_5068e_15 : decode cJ0_charAt_5068e 15 = .ok (.ireturn, 1) := by decide +kernel
theorem dJ0_charAt_5068e_16 : decode cJ0_charAt_5068e 16 = .ok (.aload_n 0, 1) := by decide +kernel
theorem dJ0_charAt_5068e_17 : decode cJ0_charAt_5068e 17 = .ok (.getfield 9, 3) := by decide +kernel
theorem dJ0_charAt_5068e_20 : decode cJ0_charAt_5068e 20 = .ok (.iload_n 1, 1) := by decide +kernel
theorem dJ0_charAt_5068e_21 : decode cJ0_charAt_5068e 21 = .ok (.invokestatic 498, 3) := by decide +kernel
theorem dJ0_charAt_5068e_24 : decode cJ0_charAt_5068e 24 = .ok (.ireturn, 1) := by decide +kernel
theorem dJ0_indexOf_0f7a4_0 : decode cJ0_indexOf_0f7a4 0 = .ok (.aload_n 0, 1) := by decide +kernel
theorem dJ0_indexOf_0f7a4_1 : decode cJ0_indexOf_0f7a4 1 = .ok (.iload_n 1, 1) := by decide +kernel
theorem dJ0_indexOf_0f7a4_2 : decode cJ0_indexOf_0f7a4 2 = .ok (.iconst 0, 1) := by decide +kernel
theorem dJ0_indexOf_0f7a4_3 : decode cJ0_indexOf_0f7a4 3 = .ok (.invokevirtual 633, 3) := by decide +kernel
theorem dJ0_indexOf_0f7a4_6 : decode cJ0_indexOf_0f7a4 6 = .ok (.ireturn, 1) := by decide +kernel
theorem dJ0_indexOf_7cf53_0 : decode cJ0_indexOf_7cf53 0 = .ok (.aload_n 0, 1) := by decide +kernel
theorem dJ0_indexOf_7cf53_1 : decode cJ0_indexOf_7cf53 1 = .ok (.invokevirtual 492, 3) := by decide +kernel
theorem dJ0_indexOf_7cf53_4 : decode cJ0_indexOf_7cf53 4 = .ok (.ifCond .eq 19, 3) := by decide +kernel
theorem dJ0_indexOf_7cf53_7 : decode cJ0_indexOf_7cf53 7 = .ok (.aload_n 0, 1) := by decide +kernel
theorem dJ0_indexOf_7cf53_8 : decode cJ0_indexOf_7cf53 8 = .ok (.getfield 9, 3) := by decide +kernel
theorem dJ0_indexOf_7cf53_11 : decode cJ0_indexOf_7cf53 11 = .ok (.iload_n 1, 1) := by decide +kernel
theorem dJ0_indexOf_7cf53_12 : decode cJ0_indexOf_7cf53 12 = .ok (.iload_n 2, 1) := by decide +kernel
theorem dJ0_indexOf_7cf53_13 : decode cJ0_indexOf_7cf53 13 = .ok (.aload_n 0, 1) := by decide +kernel
theorem dJ0_indexOf_7cf53_14 : decode cJ0_indexOf_7cf53 14 = .ok (.invokevirtual 505, 3) := by decide +kernel
theorem dJ0_indexOf_7cf53_17 : decode cJ0_indexOf_7cf53 17 = .ok (.invokestatic 637, 3) := by decide +kernel
theorem dJ0_indexOf_7cf53_20 : decode cJ0_indexOf_7cf53 20 = .ok (.goto 16, 3) := by decide +kernel
theorem dJ0_indexOf_7cf53_23 : decode cJ0_indexOf_7cf53 23 = .ok (.aload_n 0, 1) := by decide +kernel
theorem dJ0_indexOf_7cf53_24 : decode cJ0_indexOf_7cf53 24 = .ok (.getfield 9, 3) := by decide +kernel
theorem dJ0_indexOf_7cf53_27 : decode cJ0_indexOf_7cf53 27 = .ok (.iload_n 1, 1) := by decide +kernel
theorem dJ0_indexOf_7cf53_28 : decode cJ0_indexOf_7cf53 28 = .ok (.iload_n 2, 1) := by decide +kernel
theorem dJ0_indexOf_7cf53_29 : decode cJ0_indexOf_7cf53 29 = .ok (.aload_n 0, 1) := by decide +kernel
theorem dJ0_indexOf_7cf53_30 : decode cJ0_indexOf_7cf53 30 = .ok (.invokevirtual 505, 3) := by decide +kernel
theorem dJ0_indexOf_7cf53_33 : decode cJ0_indexOf_7cf53 33 = .ok (.invokestatic 640, 3) := by decide +kernel
theorem dJ0_indexOf_7cf53_36 : decode cJ0_indexOf_7cf53 36 = .ok (.ireturn, 1) := by decide +kernel
theorem dJ0_coder_7d493_0 : decode cJ0_coder_7d493 0 = .ok (.getstatic 38, 3) := by decide +kernel
theorem dJ0_coder_7d493_3 : decode cJ0_coder_7d493 3 = .ok (.ifCond .eq 10, 3) := by decide +kernel
theorem dJ0_coder_7d493_6 : decode cJ0_coder_7d493 6 = .ok (.aload_n 0, 1) := by decide +kernel
theorem dJ0_coder_7d493_7 : decode cJ0_coder_7d493 7 = .ok (.getfield 15, 3) := by decide +kernel
theorem dJ0_coder_7d493_10 : decode cJ0_coder_7d493 10 = .ok (.goto 4, 3) := by decide +kernel
theorem dJ0_coder_7d493_13 : decode cJ0_coder_7d493 13 = .ok (.iconst 1, 1) := by decide +kernel
theorem dJ0_coder_7d493_14 : decode cJ0_coder_7d493 14 = .ok (.ireturn, 1) := by decide +kernel
theorem dJ0_isLatin1_aae02_0 : decode cJ0_isLatin1_aae02 0 = .ok (.getstatic 38, 3) := by decide +kernel
theorem dJ0_isLatin1_aae02_3 : decode cJ0_isLatin1_aae02 3 = .ok (.ifCond .eq 14, 3) := by decide +kernel
theorem dJ0_isLatin1_aae02_6 : decode cJ0_isLatin1_aae02 6 = .ok (.aload_n 0, 1) := by decide +kernel
theorem dJ0_isLatin1_aae02_7 : decode cJ0_isLatin1_aae02 7 = .ok (.getfield 15, 3) := by decide +kernel
theorem dJ0_isLatin1_aae02_10 : decode cJ0_isLatin1_aae02 10 = .ok (.ifCond .ne 7, 3) := by decide +kernel
theorem dJ0_isLatin1_aae02_13 : decode cJ0_isLatin1_aae02 13 = .ok (.iconst 1, 1) := by decide +kernel
theorem dJ0_isLatin1_aae02_14 : decode cJ0_isLatin1_aae02 14 = .ok (.goto 4, 3) := by decide +kernel
theorem dJ0_isLatin1_aae02_17 : decode cJ0_isLatin1_aae02 17 = .ok (.iconst 0, 1) := by decide +kernel
theorem dJ0_isLatin1_aae02_18 : decode cJ0_isLatin1_aae02 18 = .ok (.ireturn, 1) := by decide +kernel
theorem dJ0_checkIndex_df160_0 : decode cJ0_checkIndex_df160 0 = .ok (.iload_n 0, 1) := by decide +kernel
theorem dJ0_checkIndex_df160_1 : decode cJ0_checkIndex_df160 1 = .ok (.iload_n 1, 1) := by decide +kernel
theorem dJ0_checkIndex_df160_2 : decode cJ0_checkIndex_df160 2 = .ok (.getstatic 1053, 3) := by decide +kernel
theorem dJ0_checkIndex_df160_5 : decode cJ0_checkIndex_df160 5 = .ok (.invokestatic 1059, 3) := by decide +kernel
theorem dJ0_checkIndex_df160_8 : decode cJ0_checkIndex_df160 8 = .ok (.pop, 1) := by decide +kernel
theorem dJ0_checkIndex_df160_9 : decode cJ0_checkIndex_df160 9 = .ok (.return_, 1) := by decide +kernel
theorem dJ0_checkBoundsBeginEnd_23922_0 : decode cJ0_checkBoundsBeginEnd_23922 0 = .ok (.iload_n 0, 1) := by decide +kernel
theorem dJ0_checkBoundsBeginEnd_23922_1 : decode cJ0_checkBoundsBeginEnd_23922 1 = .ok (.iload_n 1, 1) := by decide +kernel
theorem dJ0_checkBoundsBeginEnd_23922_2 : decode cJ0_checkBoundsBeginEnd_23922 2 = .ok (.iload_n 2, 1) := by decide +kernel
theorem dJ0_checkBoundsBeginEnd_23922_3 : decode cJ0_checkBoundsBeginEnd_23922 3 = .ok (.getstatic 1053, 3) := by decide +kernel
theorem dJ0_checkBoundsBeginEnd_23922_6 : decode cJ0_checkBoundsBeginEnd_23922 6 = .ok (.invokestatic 1062, 3) := by decide +kernel
theorem dJ0_checkBoundsBeginEnd_23922_9 : decode cJ0_checkBoundsBeginEnd_23922 9 = .ok (.pop, 1) := by decide +kernel
theorem dJ0_checkBoundsBeginEnd_23922_10 : decode cJ0_checkBoundsBeginEnd_23922 10 = .ok (.return_, 1) := by decide +kernel
theorem dJ1_charAt_3b067_0 : decode cJ1_charAt_3b067 0 = .ok (.iload_n 1, 1) := by decide +kernel
theorem dJ1_charAt_3b067_1 : decode cJ1_charAt_3b067 1 = .ok (.aload_n 0, 1) := by decide +kernel
theorem dJ1_charAt_3b067_2 : decode cJ1_charAt_3b067 2 = .ok (.arraylength, 1) := by decide +kernel
theorem dJ1_charAt_3b067_3 : decode cJ1_charAt_3b067 3 = .ok (.invokestatic 9, 3) := by decide +kernel
theorem dJ1_charAt_3b067_6 : decode cJ1_charAt_3b067 6 = .ok (.aload_n 0, 1) := by decide +kernel
theorem dJ1_charAt_3b067_7 : decode cJ1_charAt_3b067 7 = .ok (.iload_n 1, 1) := by decide +kernel
theorem dJ1_charAt_3b067_8 : decode cJ1_charAt_3b067 8 = .ok (.baload, 1) := by decide +kernel
theorem dJ1_charAt_3b067_9 : decode cJ1_charAt_3b067 9 = .ok (.sipush 255, 3) := by decide +kernel
theorem dJ1_charAt_3b067_12 : decode cJ1_charAt_3b067 12 = .ok (.iand, 1) := by decide +kernel
theorem dJ1_charAt_3b067_13 : decode cJ1_charAt_3b067 13 = .ok (.i2c, 1) := by decide +kernel
theorem dJ1_charAt_3b067_14 : decode cJ1_charAt_3b067 14 = .ok (.ireturn, 1) := by decide +kernel
theorem dJ1_canEncode_9a6ad_0 : decode cJ1_canEncode_9a6ad 0 = .ok (.iload_n 0, 1) := by decide +kernel
theorem dJ1_canEncode_9a6ad_1 : decode cJ1_canEncode_9a6ad 1 = .ok (.ifCond .lt 14, 3) := by decide +kernel
theorem dJ1_canEncode_9a6ad_4 : decode cJ1_canEncode_9a6ad 4 = .ok (.iload_n 0, 1) := by decide +kernel
theorem dJ1_canEncode_9a6ad_5 : decode cJ1_canEncode_9a6ad 5 = .ok (.sipush 255, 3) := by decide +kernel
theorem dJ1_canEncode_9a6ad_8 : decode cJ1_canEncode_9a6ad 8 = .ok (.if_icmp .gt 7, 3) := by decide +kernel
theorem dJ1_canEncode_9a6ad_11 : decode cJ1_canEncode_9a6ad 11 = .ok (.iconst 1, 1) := by decide +kernel
theorem dJ1_canEncode_9a6ad_12 : decode cJ1_canEncode_9a6ad 12 = .ok (.goto 4, 3) := by decide +kernel
theorem dJ1_canEncode_9a6ad_15 : decode cJ1_canEncode_9a6ad 15 = .ok (.iconst 0, 1) := by decide +kernel
theorem dJ1_canEncode_9a6ad_16 : decode cJ1_canEncode_9a6ad 16 = .ok (.ireturn, 1) := by decide +kernel
theorem dJ1_indexOf_4cfef_0 : decode cJ1_indexOf_4cfef 0 = .ok (.iload_n 1, 1) := by decide +kernel
theorem dJ1_indexOf_4cfef_1 : decode cJ1_indexOf_4cfef 1 = .ok (.invokestatic 88, 3) := by decide +kernel
theorem dJ1_indexOf_4cfef_4 : decode cJ1_indexOf_4cfef 4 = .ok (.ifCond .ne 5, 3) := by decide +kernel
theorem dJ1_indexOf_4cfef_7 : decode cJ1_indexOf_4cfef 7 = .ok (.iconst (-1), 1) := by decide +kernel
theorem dJ1_indexOf_4cfef_8 : decode cJ1_indexOf_4cfef 8 = .ok (.ireturn, 1) := by decide +kernel
theorem dJ1_indexOf_4cfef_9 : decode cJ1_indexOf_4cfef 9 = .ok (.iload_n 2, 1) := by decide +kernel
theorem dJ1_indexOf_4cfef_10 : decode cJ1_indexOf_4cfef 10 = .ok (.iconst 0, 1) := by decide +kernel
theorem dJ1_indexOf_4cfef_11 : decode cJ1_indexOf_4cfef 11 = .ok (.invokestatic 92, 3) := by decide +kernel
theorem dJ1_indexOf_4cfef_14 : decode cJ1_indexOf_4cfef 14 = .ok (.istore_n 2, 1) := by decide +kernel
theorem dJ1_indexOf_4cfef_15 : decode cJ1_indexOf_4cfef 15 = .ok (.iload_n 3, 1) := by decide +kernel
theorem dJ1_indexOf_4cfef_16 : decode cJ1_indexOf_4cfef 16 = .ok (.aload_n 0, 1) := by decide +kernel
theorem dJ1_indexOf_4cfef_17 : decode cJ1_indexOf_4cfef 17 = .ok (.arraylength, 1) := by decide +kernel
theorem dJ1_indexOf_4cfef_18 : decode cJ1_indexOf_4cfef 18 = .ok (.invokestatic 38, 3) := by decide +kernel
theorem dJ1_indexOf_4cfef_21 : decode cJ1_indexOf_4cfef 21 = .ok (.istore_n 3, 1) := by decide +kernel
theorem dJ1_indexOf_4cfef_22 : decode cJ1_indexOf_4cfef 22 = .ok (.iload_n 2, 1) := by decide +kernel
theorem dJ1_indexOf_4cfef_23 : decode cJ1_indexOf_4cfef 23 = .ok (.iload_n 3, 1) := by decide +kernel
theorem dJ1_indexOf_4cfef_24 : decode cJ1_indexOf_4cfef 24 = .ok (.if_icmp .lt 5, 3) := by decide +kernel
theorem dJ1_indexOf_4cfef_27 : decode cJ1_indexOf_4cfef 27 = .ok (.iconst (-1), 1) := by decide +kernel
theorem dJ1_indexOf_4cfef_28 : decode cJ1_indexOf_4cfef 28 = .ok (.ireturn, 1) := by decide +kernel
theorem dJ1_indexOf_4cfef_29 : decode cJ1_indexOf_4cfef 29 = .ok (.aload_n 0, 1) := by decide +kernel
theorem dJ1_indexOf_4cfef_30 : decode cJ1_indexOf_4cfef 30 = .ok (.iload_n 1, 1) := by decide +kernel
theorem dJ1_indexOf_4cfef_31 : decode cJ1_indexOf_4cfef 31 = .ok (.iload_n 2, 1) := by decide +kernel
theorem dJ1_indexOf_4cfef_32 : decode cJ1_indexOf_4cfef 32 = .ok (.iload_n 3, 1) := by decide +kernel
theorem dJ1_indexOf_4cfef_33 : decode cJ1_indexOf_4cfef 33 = .ok (.invokestatic 95, 3) := by decide +kernel
theorem dJ1_indexOf_4cfef_36 : decode cJ1_indexOf_4cfef 36 = .ok (.ireturn, 1) := by decide +kernel
theorem dJ1_indexOfChar_4cfef_0 : decode cJ1_indexOfChar_4cfef 0 = .ok (.iload_n 1, 1) := by decide +kernel
theorem dJ1_indexOfChar_4cfef_1 : decode cJ1_indexOfChar_4cfef 1 = .ok (.i2b, 1) := by decide +kernel
theorem dJ1_indexOfChar_4cfef_2 : decode cJ1_indexOfChar_4cfef 2 = .ok (.istore 4, 2) := by decide +kernel
theorem dJ1_indexOfChar_4cfef_4 : decode cJ1_indexOfChar_4cfef 4 = .ok (.iload_n 2, 1) := by decide +kernel
theorem dJ1_indexOfChar_4cfef_5 : decode cJ1_indexOfChar_4cfef 5 = .ok (.istore 5, 2) := by decide +kernel
theorem dJ1_indexOfChar_4cfef_7 : decode cJ1_indexOfChar_4cfef 7 = .ok (.iload 5, 2) := by decide +kernel
theorem dJ1_indexOfChar_4cfef_9 : decode cJ1_indexOfChar_4cfef 9 = .ok (.iload_n 3, 1) := by decide +kernel
theorem dJ1_indexOfChar_4cfef_10 : decode cJ1_indexOfChar_4cfef 10 = .ok (.if_icmp .ge 21, 3) := by decide +kernel
theorem dJ1_indexOfChar_4cfef_13 : decode cJ1_indexOfChar_4cfef 13 = .ok (.aload_n 0, 1) := by decide +kernel
theorem dJ1_indexOfChar_4cfef_14 : decode cJ1_indexOfChar_4cfef 14 = .ok (.iload 5, 2) := by decide +kernel
theorem dJ1_indexOfChar_4cfef_16 : decode cJ1_indexOfChar_4cfef 16 = .ok (.baload, 1) := by decide +kernel
theorem dJ1_indexOfChar_4cfef_17 : decode cJ1_indexOfChar_4cfef 17 = .ok (.iload 4, 2) := by decide +kernel
theorem dJ1_indexOfChar_4cfef_19 : decode cJ1_indexOfChar_4cfef 19 = .ok (.if_icmp .ne 6, 3) := by decide +kernel
theorem dJ1_indexOfChar_4cfef_22 : decode cJ1_indexOfChar_4cfef 22 = .ok (.iload 5, 2) := by decide +kernel
theorem dJ1_indexOfChar_4cfef_24 : decode cJ1_indexOfChar_4cfef 24 = .ok (.ireturn, 1) := by decide +kernel
theorem dJ1_indexOfChar_4cfef_25 : decode cJ1_indexOfChar_4cfef 25 = .ok (.iinc 5 1, 3) := by decide +kernel
theorem dJ1_indexOfChar_4cfef_28 : decode cJ1_indexOfChar_4cfef 28 = .ok (.goto (-21), 3) := by decide +kernel
theorem dJ1_indexOfChar_4cfef_31 : decode cJ1_indexOfChar_4cfef 31 = .ok (.iconst (-1), 1) := by decide +kernel
theorem dJ1_indexOfChar_4cfef_32 : decode cJ1_indexOfChar_4cfef 32 = .ok (.ireturn, 1) := by decide +kernel
theorem dJ2_getChar_3b067_0 : decode cJ2_getChar_3b067 0 = .ok (.getstatic 44, 3) := by decide +kernel
theorem dJ2_getChar_3b067_3 : decode cJ2_getChar_3b067 3 = .ok (.ifCond .ne 25, 3) := by decide +kernel
theorem dJ2_getChar_3b067_6 : decode cJ2_getChar_3b067 6 = .ok (.iload_n 1, 1) := by decide +kernel
theorem dJ2_getChar_3b067_7 : decode cJ2_getChar_3b067 7 = .ok (.ifCond .lt 11, 3) := by decide +kernel
theorem dJ2_getChar_3b067_10 : decode cJ2_getChar_3b067 10 = .ok (.iload_n 1, 1) := by decide +kernel
theorem dJ2_getChar_3b067_11 : decode cJ2_getChar_3b067 11 = .ok (.aload_n 0, 1) := by decide +kernel
theorem dJ2_getChar_3b067_12 : decode cJ2_getChar_3b067 12 = .ok (.invokestatic 48, 3) := by decide +kernel
theorem dJ2_getChar_3b067_15 : decode cJ2_getChar_3b067 15 = .ok (.if_icmp .lt 13, 3) := by decide +kernel
theorem dJ2_getChar_3b067_18 : decode cJ2_getChar_3b067 18 = .ok (.new 52, 3) := by decide +kernel
theorem dJ2_getChar_3b067_21 : decode cJ2_getChar_3b067 21 = .ok (.dup, 1) := by decide +kernel
theorem dJ2_getChar_3b067_22 : decode cJ2_getChar_3b067 22 = .ok (.ldc 54, 2) := by decide +kernel
theorem dJ2_getChar_3b067_24 : decode cJ2_getChar_3b067 24 = .ok (.invokespecial 56, 3) := by decide +kernel
theorem dJ2_getChar_3b067_27 : decode cJ2_getChar_3b067 27 = .ok (.athrow, 1) := by decide +kernel
theorem dJ2_getChar_3b067_28 : decode cJ2_getChar_3b067 28 = .ok (.iload_n 1, 1) := by decide +kernel
theorem dJ2_getChar_3b067_29 : decode cJ2_getChar_3b067 29 = .ok (.iconst 1, 1) := by decide +kernel
theorem dJ2_getChar_3b067_30 : decode cJ2_getChar_3b067 30 = .ok (.ishl, 1) := by decide +kernel
theorem dJ2_getChar_3b067_31 : decode cJ2_getChar_3b067 31 = .ok (.istore_n 1, 1) := by decide +kernel
theorem dJ2_getChar_3b067_32 : decode cJ2_getChar_3b067 32 = .ok (.aload_n 0, 1) := by decide +kernel
theorem dJ2_getChar_3b067_33 : decode cJ2_getChar_3b067 33 = .ok (.iload_n 1, 1) := by decide +kernel
theorem dJ2_getChar_3b067_34 : decode cJ2_getChar_3b067 34 = .ok (.iinc 1 1, 3) := by decide +kernel
theorem dJ2_getChar_3b067_37 : decode cJ2_getChar_3b067 37 = .ok (.baload, 1) := by decide +kernel
theorem dJ2_getChar_3b067_38 : decode cJ2_getChar_3b067 38 = .ok (.sipush 255, 3) := by decide +kernel
theorem dJ2_getChar_3b067_41 : decode cJ2_getChar_3b067 41 = .ok (.iand, 1) := by decide +kernel
theorem dJ2_getChar_3b067_42 : decode cJ2_getChar_3b067 42 = .ok (.getstatic 59, 3) := by decide +kernel
theorem dJ2_getChar_3b067_45 : decode cJ2_getChar_3b067 45 = .ok (.ishl, 1) := by decide +kernel
theorem dJ2_getChar_3b067_46 : decode cJ2_getChar_3b067 46 = .ok (.aload_n 0, 1) := by decide +kernel
theorem dJ2_getChar_3b067_47 : decode cJ2_getChar_3b067 47 = .ok (.iload_n 1, 1) := by decide +kernel
theorem dJ2_getChar_3b067_48 : decode cJ2_getChar_3b067 48 = .ok (.baload, 1) := by decide +kernel
theorem dJ2_getChar_3b067_49 : decode cJ2_getChar_3b067 49 = .ok (.sipush 255, 3) := by decide +kernel
theorem dJ2_getChar_3b067_52 : decode cJ2_getChar_3b067 52 = .ok (.iand, 1) := by decide +kernel
theorem dJ2_getChar_3b067_53 : decode cJ2_getChar_3b067 53 = .ok (.getstatic 63, 3) := by decide +kernel
theorem dJ2_getChar_3b067_56 : decode cJ2_getChar_3b067 56 = .ok (.ishl, 1) := by decide +kernel
theorem dJ2_getChar_3b067_57 : decode cJ2_getChar_3b067 57 = .ok (.ior, 1) := by decide +kernel
theorem dJ2_getChar_3b067_58 : decode cJ2_getChar_3b067 58 = .ok (.i2c, 1) := by decide +kernel
theorem dJ2_getChar_3b067_59 : decode cJ2_getChar_3b067 59 = .ok (.ireturn, 1) := by decide +kernel
theorem dJ2_length_9d52b_0 : decode cJ2_length_9d52b 0 = .ok (.aload_n 0, 1) := by decide +kernel
theorem dJ2_length_9d52b_1 : decode cJ2_length_9d52b 1 = .ok (.arraylength, 1) := by decide +kernel
theorem dJ2_length_9d52b_2 : decode cJ2_length_9d52b 2 = .ok (.iconst 1, 1) := by decide +kernel
theorem dJ2_length_9d52b_3 : decode cJ2_length_9d52b 3 = .ok (.ishr, 1) := by decide +kernel
theorem dJ2_length_9d52b_4 : decode cJ2_length_9d52b 4 = .ok (.ireturn, 1) := by decide +kernel
theorem dJ2_indexOf_4cfef_0 : decode cJ2_indexOf_4cfef 0 = .ok (.iload_n 2, 1) := by decide +kernel
theorem dJ2_indexOf_4cfef_1 : decode cJ2_indexOf_4cfef 1 = .ok (.iconst 0, 1) := by decide +kernel
theorem dJ2_indexOf_4cfef_2 : decode cJ2_indexOf_4cfef 2 = .ok (.invokestatic 224, 3) := by decide +kernel
theorem dJ2_indexOf_4cfef_5 : decode cJ2_indexOf_4cfef 5 = .ok (.istore_n 2, 1) := by decide +kernel
theorem dJ2_indexOf_4cfef_6 : decode cJ2_indexOf_4cfef 6 = .ok (.iload_n 3, 1) := by decide +kernel
theorem dJ2_indexOf_4cfef_7 : decode cJ2_indexOf_4cfef 7 = .ok (.aload_n 0, 1) := by decide +kernel
theorem dJ2_indexOf_4cfef_8 : decode cJ2_indexOf_4cfef 8 = .ok (.arraylength, 1) := by decide +kernel
theorem dJ2_indexOf_4cfef_9 : decode cJ2_indexOf_4cfef 9 = .ok (.iconst 1, 1) := by decide +kernel
theorem dJ2_indexOf_4cfef_10 : decode cJ2_indexOf_4cfef 10 = .ok (.ishr, 1) := by decide +kernel
theorem dJ2_indexOf_4cfef_11 : decode cJ2_indexOf_4cfef 11 = .ok (.invokestatic 183, 3) := by decide +kernel
theorem dJ2_indexOf_4cfef_14 : decode cJ2_indexOf_4cfef 14 = .ok (.istore_n 3, 1) := by decide +kernel
theorem dJ2_indexOf_4cfef_15 : decode cJ2_indexOf_4cfef 15 = .ok (.iload_n 2, 1) := by decide +kernel
theorem dJ2_indexOf_4cfef_16 : decode cJ2_indexOf_4cfef 16 = .ok (.iload_n 3, 1) := by decide +kernel
theorem dJ2_indexOf_4cfef_17 : decode cJ2_indexOf_4cfef 17 = .ok (.if_icmp .lt 5, 3) := by decide +kernel
theorem dJ2_indexOf_4cfef_20 : decode cJ2_indexOf_4cfef 20 = .ok (.iconst (-1), 1) := by decide +kernel
theorem dJ2_indexOf_4cfef_21 : decode cJ2_indexOf_4cfef 21 = .ok (.ireturn, 1) := by decide +kernel
theorem dJ2_indexOf_4cfef_22 : decode cJ2_indexOf_4cfef 22 = .ok (.iload_n 1, 1) := by decide +kernel
theorem dJ2_indexOf_4cfef_23 : decode cJ2_indexOf_4cfef 23 = .ok (.ldc 227, 2) := by decide +kernel
theorem dJ2_indexOf_4cfef_25 : decode cJ2_indexOf_4cfef 25 = .ok (.if_icmp .ge 11, 3) := by decide +kernel
theorem dJ2_indexOf_4cfef_28 : decode cJ2_indexOf_4cfef 28 = .ok (.aload_n 0, 1) := by decide +kernel
theorem dJ2_indexOf_4cfef_29 : decode cJ2_indexOf_4cfef 29 = .ok (.iload_n 1, 1) := by decide +kernel
theorem dJ2_indexOf_4cfef_30 : decode cJ2_indexOf_4cfef 30 = .ok (.iload_n 2, 1) := by decide +kernel
theorem dJ2_indexOf_4cfef_31 : decode cJ2_indexOf_4cfef 31 = .ok (.iload_n 3, 1) := by decide +kernel
theorem dJ2_indexOf_4cfef_32 : decode cJ2_indexOf_4cfef 32 = .ok (.invokestatic 228, 3) := by decide +kernel
theorem dJ2_indexOf_4cfef_35 : decode cJ2_indexOf_4cfef 35 = .ok (.ireturn, 1) := by decide +kernel
theorem dJ2_indexOf_4cfef_36 : decode cJ2_indexOf_4cfef 36 = .ok (.aload_n 0, 1) := by decide +kernel
theorem dJ2_indexOf_4cfef_37 : decode cJ2_indexOf_4cfef 37 = .ok (.iload_n 1, 1) := by decide +kernel
theorem dJ2_indexOf_4cfef_38 : decode cJ2_indexOf_4cfef 38 = .ok (.iload_n 2, 1) := by decide +kernel
theorem dJ2_indexOf_4cfef_39 : decode cJ2_indexOf_4cfef 39 = .ok (.iload_n 3, 1) := by decide +kernel
theorem dJ2_indexOf_4cfef_40 : decode cJ2_indexOf_4cfef 40 = .ok (.invokestatic 232, 3) := by decide +kernel
theorem dJ2_indexOf_4cfef_43 : decode cJ2_indexOf_4cfef 43 = .ok (.ireturn, 1) := by decide +kernel
theorem dJ2_indexOfChar_4cfef_0 : decode cJ2_indexOfChar_4cfef 0 = .ok (.iload_n 2, 1) := by decide +kernel
theorem dJ2_indexOfChar_4cfef_1 : decode cJ2_indexOfChar_4cfef 1 = .ok (.iload_n 3, 1) := by decide +kernel
theorem dJ2_indexOfChar_4cfef_2 : decode cJ2_indexOfChar_4cfef 2 = .ok (.aload_n 0, 1) := by decide +kernel
theorem dJ2_indexOfChar_4cfef_3 : decode cJ2_indexOfChar_4cfef 3 = .ok (.invokestatic 96, 3) := by decide +kernel
theorem dJ2_indexOfChar_4cfef_6 : decode cJ2_indexOfChar_4cfef 6 = .ok (.aload_n 0, 1) := by decide +kernel
theorem dJ2_indexOfChar_4cfef_7 : decode cJ2_indexOfChar_4cfef 7 = .ok (.iload_n 1, 1) := by decide +kernel
theorem dJ2_indexOfChar_4cfef_8 : decode cJ2_indexOfChar_4cfef 8 = .ok (.iload_n 2, 1) := by decide +kernel
theorem dJ2_indexOfChar_4cfef_9 : decode cJ2_indexOfChar_4cfef 9 = .ok (.iload_n 3, 1) := by decide +kernel
theorem dJ2_indexOfChar_4cfef_10 : decode cJ2_indexOfChar_4cfef 10 = .ok (.invokestatic 244, 3) := by decide +kernel
theorem dJ2_indexOfChar_4cfef_13 : decode cJ2_indexOfChar_4cfef 13 = .ok (.ireturn, 1) := by decide +kernel
theorem dJ2_indexOfCharUnsafe_4cfef_0 : decode cJ2_indexOfCharUnsafe_4cfef 0 = .ok (.iload_n 2, 1) := by decide +kernel
theorem dJ2_indexOfCharUnsafe_4cfef_1 : decode cJ2_indexOfCharUnsafe_4cfef 1 = .ok (.istore 4, 2) := by decide +kernel
theorem dJ2_indexOfCharUnsafe_4cfef_3 : decode cJ2_indexOfCharUnsafe_4cfef 3 = .ok (.iload 4, 2) := by decide +kernel
theorem dJ2_indexOfCharUnsafe_4cfef_5 : decode cJ2_indexOfCharUnsafe_4cfef 5 = .ok (.iload_n 3, 1) := by decide +kernel
theorem dJ2_indexOfCharUnsafe_4cfef_6 : decode cJ2_indexOfCharUnsafe_4cfef 6 = .ok (.if_icmp .ge 22, 3) := by decide +kernel
theorem dJ2_indexOfCharUnsafe_4cfef_9 : decode cJ2_indexOfCharUnsafe_4cfef 9 = .ok (.aload_n 0, 1) := by decide +kernel
theorem dJ2_indexOfCharUnsafe_4cfef_10 : decode cJ2_indexOfCharUnsafe_4cfef 10 = .ok (.iload 4, 2) := by decide +kernel
theorem dJ2_indexOfCharUnsafe_4cfef_12 : decode cJ2_indexOfCharUnsafe_4cfef 12 = .ok (.invokestatic 71, 3) := by decide +kernel
theorem dJ2_indexOfCharUnsafe_4cfef_15 : decode cJ2_indexOfCharUnsafe_4cfef 15 = .ok (.iload_n 1, 1) := by decide +kernel
theorem dJ2_indexOfCharUnsafe_4cfef_16 : decode cJ2_indexOfCharUnsafe_4cfef 16 = .ok (.if_icmp .ne 6, 3) := by decide +kernel
theorem dJ2_indexOfCharUnsafe_4cfef_19 : decode cJ2_indexOfCharUnsafe_4cfef 19 = .ok (.iload 4, 2) := by decide +kernel
theorem dJ2_indexOfCharUnsafe_4cfef_21 : decode cJ2_indexOfCharUnsafe_4cfef 21 = .ok (.ireturn, 1) := by decide +kernel
theorem dJ2_indexOfCharUnsafe_4cfef_22 : decode cJ2_indexOfCharUnsafe_4cfef 22 = .ok (.iinc 4 1, 3) := by decide +kernel
theorem dJ2_indexOfCharUnsafe_4cfef_25 : decode cJ2_indexOfCharUnsafe_4cfef 25 = .ok (.goto (-22), 3) := by decide +kernel
theorem dJ2_indexOfCharUnsafe_4cfef_28 : decode cJ2_indexOfCharUnsafe_4cfef 28 = .ok (.iconst (-1), 1) := by decide +kernel
theorem dJ2_indexOfCharUnsafe_4cfef_29 : decode cJ2_indexOfCharUnsafe_4cfef 29 = .ok (.ireturn, 1) := by decide +kernel
theorem dJ2_indexOfSupplementary_4cfef_0 : decode cJ2_indexOfSupplementary_4cfef 0 = .ok (.iload_n 1, 1) := by decide +kernel
theorem dJ2_indexOfSupplementary_4cfef_1 : decode cJ2_indexOfSupplementary_4cfef 1 = .ok (.invokestatic 164, 3) := by decide +kernel
theorem dJ2_indexOfSupplementary_4cfef_4 : decode cJ2_indexOfSupplementary_4cfef 4 = .ok (.ifCond .eq 65, 3) := by decide +kernel
theorem dJ2_indexOfSupplementary_4cfef_7 : decode cJ2_indexOfSupplementary_4cfef 7 = .ok (.iload_n 1, 1) := by decide +kernel
theorem dJ2_indexOfSupplementary_4cfef_8 : decode cJ2_indexOfSupplementary_4cfef 8 = .ok (.invokestatic 157, 3) := by decide +kernel
theorem dJ2_indexOfSupplementary_4cfef_11 : decode cJ2_indexOfSupplementary_4cfef 11 = .ok (.istore 4, 2) := by decide +kernel
theorem dJ2_indexOfSupplementary_4cfef_13 : decode cJ2_indexOfSupplementary_4cfef 13 = .ok (.iload_n 1, 1) := by decide +kernel
theorem dJ2_indexOfSupplementary_4cfef_14 : decode cJ2_indexOfSupplementary_4cfef 14 = .ok (.invokestatic 161, 3) := by decide +kernel
theorem dJ2_indexOfSupplementary_4cfef_17 : decode cJ2_indexOfSupplementary_4cfef 17 = .ok (.istore 5, 2) := by decide +kernel
theorem dJ2_indexOfSupplementary_4cfef_19 : decode cJ2_indexOfSupplementary_4cfef 19 = .ok (.iload_n 2, 1) := by decide +kernel
theorem dJ2_indexOfSupplementary_4cfef_20 : decode cJ2_indexOfSupplementary_4cfef 20 = .ok (.iload_n 3, 1) := by decide +kernel
theorem dJ2_indexOfSupplementary_4cfef_21 : decode cJ2_indexOfSupplementary_4cfef 21 = .ok (.aload_n 0, 1) := by decide +kernel
theorem dJ2_indexOfSupplementary_4cfef_22 : decode cJ2_indexOfSupplementary_4cfef 22 = .ok (.invokestatic 96, 3) := by decide +kernel
theorem dJ2_indexOfSupplementary_4cfef_25 : decode cJ2_indexOfSupplementary_4cfef 25 = .ok (.iload_n 2, 1) := by decide +kernel
theorem dJ2_indexOfSupplementary_4cfef_26 : decode cJ2_indexOfSupplementary_4cfef 26 = .ok (.istore 6, 2) := by decide +kernel
theorem dJ2_indexOfSupplementary_4cfef_28 : decode cJ2_indexOfSupplementary_4cfef 28 = .ok (.iload 6, 2) := by decide +kernel
theorem dJ2_indexOfSupplementary_4cfef_30 : decode cJ2_indexOfSupplementary_4cfef 30 = .ok (.iload_n 3, 1) := by decide +kernel
theorem dJ2_indexOfSupplementary_4cfef_31 : decode cJ2_indexOfSupplementary_4cfef 31 = .ok (.iconst 1, 1) := by decide +kernel
theorem dJ2_indexOfSupplementary_4cfef_32 : decode cJ2_indexOfSupplementary_4cfef 32 = .ok (.isub, 1) := by decide +kernel
theorem dJ2_indexOfSupplementary_4cfef_33 : decode cJ2_indexOfSupplementary_4cfef 33 = .ok (.if_icmp .ge 36, 3) := by decide +kernel
theorem dJ2_indexOfSupplementary_4cfef_36 : decode cJ2_indexOfSupplementary_4cfef 36 = .ok (.aload_n 0, 1) := by decide +kernel
theorem dJ2_indexOfSupplementary_4cfef_37 : decode cJ2_indexOfSupplementary_4cfef 37 = .ok (.iload 6, 2) := by decide +kernel
theorem dJ2_indexOfSupplementary_4cfef_39 : decode cJ2_indexOfSupplementary_4cfef 39 = .ok (.invokestatic 71, 3) := by decide +kernel
theorem dJ2_indexOfSupplementary_4cfef_42 : decode cJ2_indexOfSupplementary_4cfef 42 = .ok (.iload 4, 2) := by decide +kernel
theorem dJ2_indexOfSupplementary_4cfef_44 : decode cJ2_indexOfSupplementary_4cfef 44 = .ok (.if_icmp .ne 19, 3) := by decide +kernel
theorem dJ2_indexOfSupplementary_4cfef_47 : decode cJ2_indexOfSupplementary_4cfef 47 = .ok (.aload_n 0, 1) := by decide +kernel
theorem dJ2_indexOfSupplementary_4cfef_48 : decode cJ2_indexOfSupplementary_4cfef 48 = .ok (.iload 6, 2) := by decide +kernel
theorem dJ2_indexOfSupplementary_4cfef_50 : decode cJ2_indexOfSupplementary_4cfef 50 = .ok (.iconst 1, 1) := by decide +kernel
theorem dJ2_indexOfSupplementary_4cfef_51 : decode cJ2_indexOfSupplementary_4cfef 51 = .ok (.iadd, 1) := by decide +kernel
theorem dJ2_indexOfSupplementary_4cfef_52 : decode cJ2_indexOfSupplementary_4cfef 52 = .ok (.invokestatic 71, 3) := by decide +kernel
theorem dJ2_indexOfSupplementary_4cfef_55 : decode cJ2_indexOfSupplementary_4cfef 55 = .ok (.iload 5, 2) := by decide +kernel
theorem dJ2_indexOfSupplementary_4cfef_57 : decode cJ2_indexOfSupplementary_4cfef 57 = .ok (.if_icmp .ne 6, 3) := by decide +kernel
theorem dJ2_indexOfSupplementary_4cfef_60 : decode cJ2_indexOfSupplementary_4cfef 60 = .ok (.iload 6, 2) := by decide +kernel
theorem dJ2_indexOfSupplementary_4cfef_62 : decode cJ2_indexOfSupplementary_4cfef 62 = .ok (.ireturn, 1) := by decide +kernel
theorem dJ2_indexOfSupplementary_4cfef_63 : decode cJ2_indexOfSupplementary_4cfef 63 = .ok (.iinc 6 1, 3) := by decide +kernel
theorem dJ2_indexOfSupplementary_4cfef_66 : decode cJ2_indexOfSupplementary_4cfef 66 = .ok (.goto (-38), 3) := by decide +kernel
theorem dJ2_indexOfSupplementary_4cfef_69 : decode cJ2_indexOfSupplementary_4cfef 69 = .ok (.iconst (-1), 1) := by decide +kernel
theorem dJ2_indexOfSupplementary_4cfef_70 : decode cJ2_indexOfSupplementary_4cfef 70 = .ok (.ireturn, 1) := by decide +kernel
theorem dJ2_charAt_3b067_0 : decode cJ2_charAt_3b067 0 = .ok (.iload_n 1, 1) := by decide +kernel
theorem dJ2_charAt_3b067_1 : decode cJ2_charAt_3b067 1 = .ok (.aload_n 0, 1) := by decide +kernel
theorem dJ2_charAt_3b067_2 : decode cJ2_charAt_3b067 2 = .ok (.invokestatic 67, 3) := by decide +kernel
theorem dJ2_charAt_3b067_5 : decode cJ2_charAt_3b067 5 = .ok (.aload_n 0, 1) := by decide +kernel
theorem dJ2_charAt_3b067_6 : decode cJ2_charAt_3b067 6 = .ok (.iload_n 1, 1) := by decide +kernel
theorem dJ2_charAt_3b067_7 : decode cJ2_charAt_3b067 7 = .ok (.invokestatic 71, 3) := by decide +kernel
theorem dJ2_charAt_3b067_10 : decode cJ2_charAt_3b067 10 = .ok (.ireturn, 1) := by decide +kernel
theorem dJ2_checkIndex_2214a_0 : decode cJ2_checkIndex_2214a 0 = .ok (.iload_n 0, 1) := by decide +kernel
theorem dJ2_checkIndex_2214a_1 : decode cJ2_checkIndex_2214a 1 = .ok (.aload_n 1, 1) := by decide +kernel
theorem dJ2_checkIndex_2214a_2 : decode cJ2_checkIndex_2214a 2 = .ok (.invokestatic 48, 3) := by decide +kernel
theorem dJ2_checkIndex_2214a_5 : decode cJ2_checkIndex_2214a 5 = .ok (.invokestatic 414, 3) := by decide +kernel
theorem dJ2_checkIndex_2214a_8 : decode cJ2_checkIndex_2214a 8 = .ok (.return_, 1) := by decide +kernel
theorem dJ2_checkBoundsBeginEnd_d044e_0 : decode cJ2_checkBoundsBeginEnd_d044e 0 = .ok (.iload_n 0, 1) := by decide +kernel
theorem dJ2_checkBoundsBeginEnd_d044e_1 : decode cJ2_checkBoundsBeginEnd_d044e 1 = .ok (.iload_n 1, 1) := by decide +kernel
theorem dJ2_checkBoundsBeginEnd_d044e_2 : decode cJ2_checkBoundsBeginEnd_d044e 2 = .ok (.aload_n 2, 1) := by decide +kernel
theorem dJ2_checkBoundsBeginEnd_d044e_3 : decode cJ2_checkBoundsBeginEnd_d044e 3 = .ok (.invokestatic 48, 3) := by decide +kernel
theorem dJ2_checkBoundsBeginEnd_d044e_6 : decode cJ2_checkBoundsBeginEnd_d044e 6 = .ok (.invokestatic 241, 3) := by decide +kernel
theorem dJ2_checkBoundsBeginEnd_d044e_9 : decode cJ2_checkBoundsBeginEnd_d044e 9 = .ok (.return_, 1) := by decide +kernel
theorem dJ3_checkIndex_8e157_0 : decode cJ3_checkIndex_8e157 0 = .ok (.iload_n 0, 1) := by decide +kernel
theorem dJ3_checkIndex_8e157_1 : decode cJ3_checkIndex_8e157 1 = .ok (.ifCond .lt 8, 3) := by decide +kernel
theorem dJ3_checkIndex_8e157_4 : decode cJ3_checkIndex_8e157 4 = .ok (.iload_n 0, 1) := by decide +kernel
theorem dJ3_checkIndex_8e157_5 : decode cJ3_checkIndex_8e157 5 = .ok (.iload_n 1, 1) := by decide +kernel
theorem dJ3_checkIndex_8e157_6 : decode cJ3_checkIndex_8e157 6 = .ok (.if_icmp .lt 10, 3) := by decide +kernel
theorem dJ3_checkIndex_8e157_9 : decode cJ3_checkIndex_8e157 9 = .ok (.aload_n 2, 1) := by decide +kernel
theorem dJ3_checkIndex_8e157_10 : decode cJ3_checkIndex_8e157 10 = .ok (.iload_n 0, 1) := by decide +kernel
theorem dJ3_checkIndex_8e157_11 : decode cJ3_checkIndex_8e157 11 = .ok (.iload_n 1, 1) := by decide +kernel
theorem dJ3_checkIndex_8e157_12 : decode cJ3_checkIndex_8e157 12 = .ok (.invokestatic 95, 3) := by decide +kernel
theorem dJ3_checkIndex_8e157_15 : decode cJ3_checkIndex_8e157 15 = .ok (.athrow, 1) := by decide +kernel
theorem dJ3_checkIndex_8e157_16 : decode cJ3_checkIndex_8e157 16 = .ok (.iload_n 0, 1) := by decide +kernel
theorem dJ3_checkIndex_8e157_17 : decode cJ3_checkIndex_8e157 17 = .ok (.ireturn, 1) := by decide +kernel
theorem dJ3_checkFromToIndex_8c36e_0 : decode cJ3_checkFromToIndex_8c36e 0 = .ok (.iload_n 0, 1) := by decide +kernel
theorem dJ3_checkFromToIndex_8c36e_1 : decode cJ3_checkFromToIndex_8c36e 1 = .ok (.ifCond .lt 13, 3) := by decide +kernel
theorem dJ3_checkFromToIndex_8c36e_4 : decode cJ3_checkFromToIndex_8c36e 4 = .ok (.iload_n 0, 1) := by decide +kernel
theorem dJ3_checkFromToIndex_8c36e_5 : decode cJ3_checkFromToIndex_8c36e 5 = .ok (.iload_n 1, 1) := by decide +kernel
theorem dJ3_checkFromToIndex_8c36e_6 : decode cJ3_checkFromToIndex_8c36e 6 = .ok (.if_icmp .gt 8, 3) := by decide +kernel
theorem dJ3_checkFromToIndex_8c36e_9 : decode cJ3_checkFromToIndex_8c36e 9 = .ok (.iload_n 1, 1) := by decide +kernel
theorem dJ3_checkFromToIndex_8c36e_10 : decode cJ3_checkFromToIndex_8c36e 10 = .ok (.iload_n 2, 1) := by decide +kernel
theorem dJ3_checkFromToIndex_8c36e_11 : decode cJ3_checkFromToIndex_8c36e 11 = .ok (.if_icmp .le 11, 3) := by decide +kernel
theorem dJ3_checkFromToIndex_8c36e_14 : decode cJ3_checkFromToIndex_8c36e 14 = .ok (.aload_n 3, 1) := by decide +kernel
theorem dJ3_checkFromToIndex_8c36e_15 : decode cJ3_checkFromToIndex_8c36e 15 = .ok (.iload_n 0, 1) := by decide +kernel
theorem dJ3_checkFromToIndex_8c36e_16 : decode cJ3_checkFromToIndex_8c36e 16 = .ok (.iload_n 1, 1) := by decide +kernel
theorem dJ3_checkFromToIndex_8c36e_17 : decode cJ3_checkFromToIndex_8c36e 17 = .ok (.iload_n 2, 1) := by decide +kernel
theorem dJ3_checkFromToIndex_8c36e_18 : decode cJ3_checkFromToIndex_8c36e 18 = .ok (.invokestatic 99, 3) := by decide +kernel
theorem dJ3_checkFromToIndex_8c36e_21 : decode cJ3_checkFromToIndex_8c36e 21 = .ok (.athrow, 1) := by decide +kernel
theorem dJ3_checkFromToIndex_8c36e_22 : decode cJ3_checkFromToIndex_8c36e 22 = .ok (.iload_n 0, 1) := by decide +kernel
theorem dJ3_checkFromToIndex_8c36e_23 : decode cJ3_checkFromToIndex_8c36e 23 = .ok (.ireturn, 1) := by decide +kernel
