set_option maxHeartbeats 100000000 in
set_option maxRecDepth 100000 in
theorem tc_X12 : n_Mt yX12_init (z_w yX12_init cX12_init 1 none) 1 33 7699 12 [.int 0, .null, .null, .int 0, .null, .int 0, .int 0, .int 0, .int 0, .int 0, .null, .null, .null, .null, .int 0, .int 0, .int 0, .int 0, .int 0, .null, .null, .null, .null, .null, .null, .null, .null, .int 0, .int 0, .int 0, .null, .int 0, .int 0, .int 0, .int 0, .int 0, .int 0, .null, .int 0, .null, .int 0, .null, .null, .null, .int 0, .null, .null, .null, .null, .null, .null, .null, .int 0, .null, .null, .null, .null, .int 0, .int 0, .int 0, .null] [] w_Model := by
  refine n_head (lo := []) (by decide) rfl (fun b => Nat.le_of_ble_eq_true rfl) ?_ rfl ?_
  · intro b i v hv
    exact z_loe (vs := .ref b :: []) (n := 0) rfl (by simp [z_c1i, z_c1r]) i v hv
  · intro X A b C
    have hln : ([.int 0, .null, .null, .int 0, .null, .int 0, .int 0, .int 0, .int 0, .int 0, .null, .null, .null, .null, .int 0, .int 0, .int 0, .int 0, .int 0, .null, .null, .null, .null, .null, .null, .null, .null, .int 0, .int 0, .int 0, .null, .int 0, .int 0, .int 0, .int 0, .int 0, .int 0, .null, .int 0, .null, .int 0, .null, .null, .null, .int 0, .null, .null, .null, .null, .null, .null, .null, .int 0, .null, .null, .null, .null, .int 0, .int 0, .int 0, .null] : List Value).length = 61 := rfl
    refine n_aload_n C dX12_init_0 rfl rfl ?_
    refine n_obj (st := []) C rfl (Nat.le_of_ble_eq_true rfl) moX12_1 dX12_init_1 ?_
    refine n_aload_n C dX12_init_4 rfl rfl ?_
    refine n_bipush (v := 100) C dX12_init_5 (by decide) ?_
    refine n_newi0 (N := 100) C (by decide) (by decide) (by decide) (by decide) (by decide) dX12_init_7 (fun q1 => ?_)
    refine n_putF0 (j := 1) C z_CF12 (by decide) flX12_7 rfl rfl rfl rfl hln dX12_init_9 (fun hln => ?_)
    refine n_aload_n C dX12_init_12 rfl rfl ?_
    refine n_sipush (v := 600) C dX12_init_13 (by decide) ?_
    refine n_newi0 (N := 600) C (by decide) (by decide) (by decide) (by decide) (by decide) dX12_init_16 (fun q2 => ?_)
    refine n_putF0 (j := 2) C z_CF12 (by decide) flX12_13 rfl rfl rfl rfl hln dX12_init_18 (fun hln => ?_)
    refine n_aload_n C dX12_init_21 rfl rfl ?_
    refine n_bipush (v := 100) C dX12_init_22 (by decide) ?_
    refine n_newi0 (N := 100) C (by decide) (by decide) (by decide) (by decide) (by decide) dX12_init_24 (fun q3 => ?_)
    refine n_putF0 (j := 4) C z_CF12 (by decide) flX12_16 rfl rfl rfl rfl hln dX12_init_26 (fun hln => ?_)
    refine n_aload_n C dX12_init_29 rfl rfl ?_
    refine n_bipush (v := 8) C dX12_init_30 (by decide) ?_
    refine n_newi0 (N := 8) C (by decide) (by decide) (by decide) (by decide) (by decide) dX12_init_32 (fun q4 => ?_)
    refine n_putF0 (j := 10) C z_CF12 (by decide) flX12_19 rfl rfl rfl rfl hln dX12_init_34 (fun hln => ?_)
    refine n_aload_n C dX12_init_37 rfl rfl ?_
    refine n_bipush (v := 8) C dX12_init_38 (by decide) ?_
    refine n_newi0 (N := 8) C (by decide) (by decide) (by decide) (by decide) (by decide) dX12_init_40 (fun q5 => ?_)
    refine n_putF0 (j := 11) C z_CF12 (by decide) flX12_22 rfl rfl rfl rfl hln dX12_init_42 (fun hln => ?_)
    refine n_aload_n C dX12_init_45 rfl rfl ?_
    refine n_sipush (v := 600) C dX12_init_46 (by decide) ?_
    refine n_newi0 (N := 600) C (by decide) (by decide) (by decide) (by decide) (by decide) dX12_init_49 (fun q6 => ?_)
    refine n_putF0 (j := 12) C z_CF12 (by decide) flX12_25 rfl rfl rfl rfl hln dX12_init_51 (fun hln => ?_)
    refine n_aload_n C dX12_init_54 rfl rfl ?_
    refine n_sipush (v := 400) C dX12_init_55 (by decide) ?_
    refine n_newi0 (N := 400) C (by decide) (by decide) (by decide) (by decide) (by decide) dX12_init_58 (fun q7 => ?_)
    refine n_putF0 (j := 13) C z_CF12 (by decide) flX12_28 rfl rfl rfl rfl hln dX12_init_60 (fun hln => ?_)
    refine n_aload_n C dX12_init_63 rfl rfl ?_
    refine n_sipush (v := 145) C dX12_init_64 (by decide) ?_
    refine n_newi0 (N := 145) C (by decide) (by decide) (by decide) (by decide) (by decide) dX12_init_67 (fun q8 => ?_)
    refine tc_words C ?_
    refine n_putF0 (j := 19) C z_CF12 (by decide) flX12_31 rfl rfl rfl rfl hln dX12_init_950 (fun hln => ?_)
    refine n_aload_n C dX12_init_953 rfl rfl ?_
    refine n_iconst (v := 2) C dX12_init_954 (by decide) ?_
    refine n_newi0 (N := 2) C (by decide) (by decide) (by decide) (by decide) (by decide) dX12_init_955 (fun q9 => ?_)
    refine n_putF0 (j := 20) C z_CF12 (by decide) flX12_34 rfl rfl rfl rfl hln dX12_init_957 (fun hln => ?_)
    refine n_aload_n C dX12_init_960 rfl rfl ?_
    refine n_bipush (v := 48) C dX12_init_961 (by decide) ?_
    refine n_newi0 (N := 48) C (by decide) (by decide) (by decide) (by decide) (by decide) dX12_init_963 (fun q10 => ?_)
    refine n_putF0 (j := 21) C z_CF12 (by decide) flX12_37 rfl rfl rfl rfl hln dX12_init_965 (fun hln => ?_)
    refine n_aload_n C dX12_init_968 rfl rfl ?_
    refine n_bipush (v := 48) C dX12_init_969 (by decide) ?_
    refine n_newi0 (N := 48) C (by decide) (by decide) (by decide) (by decide) (by decide) dX12_init_971 (fun q11 => ?_)
    refine n_putF0 (j := 22) C z_CF12 (by decide) flX12_40 rfl rfl rfl rfl hln dX12_init_973 (fun hln => ?_)
    refine n_aload_n C dX12_init_976 rfl rfl ?_
    refine n_bipush (v := 48) C dX12_init_977 (by decide) ?_
    refine n_newi0 (N := 48) C (by decide) (by decide) (by decide) (by decide) (by decide) dX12_init_979 (fun q12 => ?_)
    refine n_putF0 (j := 23) C z_CF12 (by decide) flX12_43 rfl rfl rfl rfl hln dX12_init_981 (fun hln => ?_)
    refine n_aload_n C dX12_init_984 rfl rfl ?_
    refine n_bipush (v := 48) C dX12_init_985 (by decide) ?_
    refine n_newi0 (N := 48) C (by decide) (by decide) (by decide) (by decide) (by decide) dX12_init_987 (fun q13 => ?_)
    refine n_putF0 (j := 24) C z_CF12 (by decide) flX12_46 rfl rfl rfl rfl hln dX12_init_989 (fun hln => ?_)
    refine n_aload_n C dX12_init_992 rfl rfl ?_
    refine n_sipush (v := 1200) C dX12_init_993 (by decide) ?_
    refine n_newi0 (N := 1200) C (by decide) (by decide) (by decide) (by decide) (by decide) dX12_init_996 (fun q14 => ?_)
    refine n_putF0 (j := 25) C z_CF12 (by decide) flX12_49 rfl rfl rfl rfl hln dX12_init_998 (fun hln => ?_)
    refine n_aload_n C dX12_init_1001 rfl rfl ?_
    refine n_sipush (v := 1200) C dX12_init_1002 (by decide) ?_
    refine n_newi0 (N := 1200) C (by decide) (by decide) (by decide) (by decide) (by decide) dX12_init_1005 (fun q15 => ?_)
    refine n_putF0 (j := 26) C z_CF12 (by decide) flX12_52 rfl rfl rfl rfl hln dX12_init_1007 (fun hln => ?_)
    refine n_aload_n C dX12_init_1010 rfl rfl ?_
    refine n_bipush (v := 40) C dX12_init_1011 (by decide) ?_
    refine n_newi0 (N := 40) C (by decide) (by decide) (by decide) (by decide) (by decide) dX12_init_1013 (fun q16 => ?_)
    refine n_putF0 (j := 30) C z_CF12 (by decide) flX12_55 rfl rfl rfl rfl hln dX12_init_1015 (fun hln => ?_)
    refine n_aload_n C dX12_init_1018 rfl rfl ?_
    refine n_iconst (v := (-1)) C dX12_init_1019 (by decide) ?_
    refine n_put0 (j := 35) C z_CF12 (by decide) flX12_58 rfl rfl rfl hln dX12_init_1020 (fun hln => ?_)
    refine n_aload_n C dX12_init_1023 rfl rfl ?_
    refine n_bipush (v := 96) C dX12_init_1024 (by decide) ?_
    refine n_newi0 (N := 96) C (by decide) (by decide) (by decide) (by decide) (by decide) dX12_init_1026 (fun q17 => ?_)
    refine n_putF0 (j := 37) C z_CF12 (by decide) flX12_62 rfl rfl rfl rfl hln dX12_init_1028 (fun hln => ?_)
    refine n_aload_n C dX12_init_1031 rfl rfl ?_
    refine n_bipush (v := 72) C dX12_init_1032 (by decide) ?_
    refine n_newi0 (N := 72) C (by decide) (by decide) (by decide) (by decide) (by decide) dX12_init_1034 (fun q18 => ?_)
    refine n_putF0 (j := 39) C z_CF12 (by decide) flX12_65 rfl rfl rfl rfl hln dX12_init_1036 (fun hln => ?_)
    refine n_aload_n C dX12_init_1039 rfl rfl ?_
    refine n_sipush (v := 160) C dX12_init_1040 (by decide) ?_
    refine n_newi0 (N := 160) C (by decide) (by decide) (by decide) (by decide) (by decide) dX12_init_1043 (fun q19 => ?_)
    refine n_putF0 (j := 41) C z_CF12 (by decide) flX12_68 rfl rfl rfl rfl hln dX12_init_1045 (fun hln => ?_)
    refine n_aload_n C dX12_init_1048 rfl rfl ?_
    refine n_bipush (v := 8) C dX12_init_1049 (by decide) ?_
    refine n_newi0 (N := 8) C (by decide) (by decide) (by decide) (by decide) (by decide) dX12_init_1051 (fun q20 => ?_)
    refine n_putF0 (j := 42) C z_CF12 (by decide) flX12_71 rfl rfl rfl rfl hln dX12_init_1053 (fun hln => ?_)
    refine n_aload_n C dX12_init_1056 rfl rfl ?_
    refine n_sipush (v := 420) C dX12_init_1057 (by decide) ?_
    refine n_newi0 (N := 420) C (by decide) (by decide) (by decide) (by decide) (by decide) dX12_init_1060 (fun q21 => ?_)
    refine n_putF0 (j := 43) C z_CF12 (by decide) flX12_74 rfl rfl rfl rfl hln dX12_init_1062 (fun hln => ?_)
    refine n_aload_n C dX12_init_1065 rfl rfl ?_
    refine n_bipush (v := 8) C dX12_init_1066 (by decide) ?_
    refine n_newi0 (N := 8) C (by decide) (by decide) (by decide) (by decide) (by decide) dX12_init_1068 (fun q22 => ?_)
    refine n_putF0 (j := 45) C z_CF12 (by decide) flX12_77 rfl rfl rfl rfl hln dX12_init_1070 (fun hln => ?_)
    refine n_aload_n C dX12_init_1073 rfl rfl ?_
    refine n_bipush (v := 8) C dX12_init_1074 (by decide) ?_
    refine n_newi0 (N := 8) C (by decide) (by decide) (by decide) (by decide) (by decide) dX12_init_1076 (fun q23 => ?_)
    refine n_putF0 (j := 46) C z_CF12 (by decide) flX12_80 rfl rfl rfl rfl hln dX12_init_1078 (fun hln => ?_)
    refine n_aload_n C dX12_init_1081 rfl rfl ?_
    refine n_bipush (v := 8) C dX12_init_1082 (by decide) ?_
    refine n_newi0 (N := 8) C (by decide) (by decide) (by decide) (by decide) (by decide) dX12_init_1084 (fun q24 => ?_)
    refine n_putF0 (j := 47) C z_CF12 (by decide) flX12_83 rfl rfl rfl rfl hln dX12_init_1086 (fun hln => ?_)
    refine n_aload_n C dX12_init_1089 rfl rfl ?_
    refine n_bipush (v := 8) C dX12_init_1090 (by decide) ?_
    refine n_newi0 (N := 8) C (by decide) (by decide) (by decide) (by decide) (by decide) dX12_init_1092 (fun q25 => ?_)
    refine n_putF0 (j := 48) C z_CF12 (by decide) flX12_86 rfl rfl rfl rfl hln dX12_init_1094 (fun hln => ?_)
    refine n_aload_n C dX12_init_1097 rfl rfl ?_
    refine n_bipush (v := 8) C dX12_init_1098 (by decide) ?_
    refine n_newi0 (N := 8) C (by decide) (by decide) (by decide) (by decide) (by decide) dX12_init_1100 (fun q26 => ?_)
    refine n_putF0 (j := 49) C z_CF12 (by decide) flX12_89 rfl rfl rfl rfl hln dX12_init_1102 (fun hln => ?_)
    refine n_aload_n C dX12_init_1105 rfl rfl ?_
    refine n_bipush (v := 8) C dX12_init_1106 (by decide) ?_
    refine n_newi0 (N := 8) C (by decide) (by decide) (by decide) (by decide) (by decide) dX12_init_1108 (fun q27 => ?_)
    refine n_putF0 (j := 50) C z_CF12 (by decide) flX12_92 rfl rfl rfl rfl hln dX12_init_1110 (fun hln => ?_)
    refine n_aload_n C dX12_init_1113 rfl rfl ?_
    refine n_bipush (v := 8) C dX12_init_1114 (by decide) ?_
    refine n_newi0 (N := 8) C (by decide) (by decide) (by decide) (by decide) (by decide) dX12_init_1116 (fun q28 => ?_)
    refine n_putF0 (j := 51) C z_CF12 (by decide) flX12_95 rfl rfl rfl rfl hln dX12_init_1118 (fun hln => ?_)
    refine n_aload_n C dX12_init_1121 rfl rfl ?_
    refine n_bipush (v := 12) C dX12_init_1122 (by decide) ?_
    refine n_newi0 (N := 12) C (by decide) (by decide) (by decide) (by decide) (by decide) dX12_init_1124 (fun q29 => ?_)
    refine n_putF0 (j := 53) C z_CF12 (by decide) flX12_98 rfl rfl rfl rfl hln dX12_init_1126 (fun hln => ?_)
    refine n_aload_n C dX12_init_1129 rfl rfl ?_
    refine n_bipush (v := 12) C dX12_init_1130 (by decide) ?_
    refine n_newi0 (N := 12) C (by decide) (by decide) (by decide) (by decide) (by decide) dX12_init_1132 (fun q30 => ?_)
    refine n_putF0 (j := 54) C z_CF12 (by decide) flX12_101 rfl rfl rfl rfl hln dX12_init_1134 (fun hln => ?_)
    refine n_aload_n C dX12_init_1137 rfl rfl ?_
    refine n_bipush (v := 12) C dX12_init_1138 (by decide) ?_
    refine n_newi0 (N := 12) C (by decide) (by decide) (by decide) (by decide) (by decide) dX12_init_1140 (fun q31 => ?_)
    refine n_putF0 (j := 55) C z_CF12 (by decide) flX12_104 rfl rfl rfl rfl hln dX12_init_1142 (fun hln => ?_)
    refine n_aload_n C dX12_init_1145 rfl rfl ?_
    refine n_sipush (v := 256) C dX12_init_1146 (by decide) ?_
    refine n_newi0 (N := 256) C (by decide) (by decide) (by decide) (by decide) (by decide) dX12_init_1149 (fun q32 => ?_)
    refine n_putF0 (j := 56) C z_CF12 (by decide) flX12_107 rfl rfl rfl rfl hln dX12_init_1151 (fun hln => ?_)
    refine n_aload_n C dX12_init_1154 rfl rfl ?_
    refine n_sipush (v := 2000) C dX12_init_1155 (by decide) ?_
    refine n_newi0 (N := 2000) C (by decide) (by decide) (by decide) (by decide) (by decide) dX12_init_1158 (fun q33 => ?_)
    refine n_putF0 (j := 60) C z_CF12 (by decide) flX12_110 rfl rfl rfl rfl hln dX12_init_1160 (fun hln => ?_)
    refine n_ws (ws' := w_Model (n_Y X) (fun i => [b, q1, q2, q3, q4, q5, q6, q7, q8, q9, q10, q11, q12, q13, q14, q15, q16, q17, q18, q19, q20, q21, q22, q23, q24, q25, q26, q27, q28, q29, q30, q31, q32, q33].getD i 0)) ?_ (n_ret C _ rfl rfl dX12_init_1163)
    simp only [w_Model, List.getD_cons_zero, List.getD_cons_succ, List.set_cons_succ, List.set_cons_zero, List.nil_append, List.cons_append]
