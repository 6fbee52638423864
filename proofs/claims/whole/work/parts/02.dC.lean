abbrev y_Frame_init : MethodName := ⟨"SquareSymbols$Frame", "<init>", "()V"⟩
abbrev w_Frame_init : List Cond := .code y_Frame_init prog_6_method_1_code 1 none :: lw_g
abbrev y_Frame_formNumber : MethodName := ⟨"SquareSymbols$Frame", "formNumber", "(LSquareSymbols$Grid;)I"⟩
abbrev w_Frame_formNumber : List Cond := .code y_Frame_formNumber prog_6_method_12_code 5 (some .int) :: lw_g
abbrev y_Frame_formX : MethodName := ⟨"SquareSymbols$Frame", "formX", "(III)I"⟩
abbrev w_Frame_formX : List Cond := .code y_Frame_formX prog_6_method_9_code 3 (some .int) :: lw_g
abbrev y_Frame_formY : MethodName := ⟨"SquareSymbols$Frame", "formY", "(III)I"⟩
abbrev w_Frame_formY : List Cond := .code y_Frame_formY prog_6_method_10_code 3 (some .int) :: lw_g
abbrev y_Frame_formWord : MethodName := ⟨"SquareSymbols$Frame", "formWord", "(I)I"⟩
abbrev w_Frame_formWord : List Cond := .code y_Frame_formWord prog_6_method_8_code 1 (some .int) :: lw_g
abbrev y_Frame_withRest : MethodName := ⟨"SquareSymbols$Frame", "withRest", "(III)I"⟩
abbrev w_Frame_withRest : List Cond := .code y_Frame_withRest prog_6_method_7_code 5 (some .int) :: lw_g
abbrev y_Frame_lay : MethodName := ⟨"SquareSymbols$Frame", "lay", "(I)V"⟩
abbrev w_Frame_lay : List Cond := .code y_Frame_lay prog_6_method_2_code 3 none :: lw_g
abbrev y_Frame_fix : MethodName := ⟨"SquareSymbols$Frame", "fix", "(IIZ)V"⟩
abbrev w_Frame_fix : List Cond := .code y_Frame_fix prog_6_method_3_code 4 none :: lw_g
abbrev y_Frame_layRings : MethodName := ⟨"SquareSymbols$Frame", "layRings", "(IIII)V"⟩
abbrev w_Frame_layRings : List Cond := .code y_Frame_layRings prog_6_method_4_code 8 none :: lw_g
abbrev y_Frame_layAlignments : MethodName := ⟨"SquareSymbols$Frame", "layAlignments", "(I)V"⟩
abbrev w_Frame_layAlignments : List Cond := .code y_Frame_layAlignments prog_6_method_5_code 10 none :: lw_g
abbrev y_Frame_layVersion : MethodName := ⟨"SquareSymbols$Frame", "layVersion", "(I)V"⟩
abbrev w_Frame_layVersion : List Cond := .code y_Frame_layVersion prog_6_method_6_code 5 none :: lw_g
abbrev y_Frame_chooseMask : MethodName := ⟨"SquareSymbols$Frame", "chooseMask", "(I)V"⟩
abbrev w_Frame_chooseMask : List Cond := .code y_Frame_chooseMask prog_6_method_16_code 4 none :: lw_g
abbrev y_Frame_isTurned : MethodName := ⟨"SquareSymbols$Frame", "isTurned", "(III)Z"⟩
abbrev w_Frame_isTurned : List Cond := .code y_Frame_isTurned prog_6_method_17_code 3 (some .boolean) :: lw_g
abbrev y_Frame_turnMask : MethodName := ⟨"SquareSymbols$Frame", "turnMask", "(LSquareSymbols$Grid;)V"⟩
abbrev w_Frame_turnMask : List Cond := .code y_Frame_turnMask prog_6_method_18_code 6 none :: lw_g
abbrev y_Frame_takeCodewords : MethodName := ⟨"SquareSymbols$Frame", "takeCodewords", "(LSquareSymbols$Grid;LSquareSymbols$Codewords;)V"⟩
abbrev w_Frame_takeCodewords : List Cond := .code y_Frame_takeCodewords prog_6_method_14_code 6 none :: lw_g
abbrev y_Frame_step : MethodName := ⟨"SquareSymbols$Frame", "step", "()Z"⟩
abbrev w_Frame_step : List Cond := .code y_Frame_step prog_6_method_15_code 6 (some .boolean) :: lw_g
abbrev y_Frame_placeCodewords : MethodName := ⟨"SquareSymbols$Frame", "placeCodewords", "(LSquareSymbols$Codewords;LSquareSymbols$Grid;)V"⟩
abbrev w_Frame_placeCodewords : List Cond := .code y_Frame_placeCodewords prog_6_method_13_code 6 none :: lw_g
abbrev y_Frame_drawForm : MethodName := ⟨"SquareSymbols$Frame", "drawForm", "(LSquareSymbols$Grid;II)V"⟩
abbrev w_Frame_drawForm : List Cond := .code y_Frame_drawForm prog_6_method_11_code 7 none :: lw_g
theorem d_Frame_init_0 : decode prog_6_method_1_code 0 = .ok (.aload_n 0, 1) := by decide +kernel
theorem d_Frame_init_1 : decode prog_6_method_1_code 1 = .ok (.invokespecial 3, 3) := by decide +kernel
theorem d_Frame_init_4 : decode prog_6_method_1_code 4 = .ok (.aload_n 0, 1) := by decide +kernel
theorem d_Frame_init_5 : decode prog_6_method_1_code 5 = .ok (.new 9, 3) := by decide +kernel
theorem d_Frame_init_8 : decode prog_6_method_1_code 8 = .ok (.dup, 1) := by decide +kernel
theorem d_Frame_init_9 : decode prog_6_method_1_code 9 = .ok (.invokespecial 11, 3) := by decide +kernel
theorem d_Frame_init_12 : decode prog_6_method_1_code 12 = .ok (.putfield 12, 3) := by decide +kernel
theorem d_Frame_init_15 : decode prog_6_method_1_code 15 = .ok (.aload_n 0, 1) := by decide +kernel
theorem d_Frame_init_16 : decode prog_6_method_1_code 16 = .ok (.new 9, 3) := by decide +kernel
theorem d_Frame_init_19 : decode prog_6_method_1_code 19 = .ok (.dup, 1) := by decide +kernel
theorem d_Frame_init_20 : decode prog_6_method_1_code 20 = .ok (.invokespecial 11, 3) := by decide +kernel
theorem d_Frame_init_23 : decode prog_6_method_1_code 23 = .ok (.putfield 18, 3) := by decide +kernel
theorem d_Frame_init_26 : decode prog_6_method_1_code 26 = .ok (.aload_n 0, 1) := by decide +kernel
theorem d_Frame_init_27 : decode prog_6_method_1_code 27 = .ok (.bipush 36, 2) := by decide +kernel
theorem d_Frame_init_29 : decode prog_6_method_1_code 29 = .ok (.newarray .long, 2) := by decide +kernel
theorem d_Frame_init_31 : decode prog_6_method_1_code 31 = .ok (.putfield 21, 3) := by decide +kernel
theorem d_Frame_init_34 : decode prog_6_method_1_code 34 = .ok (.return_, 1) := by decide +kernel
theorem d_Frame_formNumber_0 : decode prog_6_method_12_code 0 = .ok (.aload_n 0, 1) := by decide +kernel
theorem d_Frame_formNumber_1 : decode prog_6_method_12_code 1 = .ok (.invokevirtual 77, 3) := by decide +kernel
theorem d_Frame_formNumber_4 : decode prog_6_method_12_code 4 = .ok (.istore_n 1, 1) := by decide +kernel
theorem d_Frame_formNumber_5 : decode prog_6_method_12_code 5 = .ok (.iconst 0, 1) := by decide +kernel
theorem d_Frame_formNumber_6 : decode prog_6_method_12_code 6 = .ok (.istore_n 2, 1) := by decide +kernel
theorem d_Frame_formNumber_7 : decode prog_6_method_12_code 7 = .ok (.iload_n 2, 1) := by decide +kernel
theorem d_Frame_formNumber_8 : decode prog_6_method_12_code 8 = .ok (.iconst 2, 1) := by decide +kernel
theorem d_Frame_formNumber_9 : decode prog_6_method_12_code 9 = .ok (.if_icmp .ge 88, 3) := by decide +kernel
theorem d_Frame_formNumber_12 : decode prog_6_method_12_code 12 = .ok (.iconst 0, 1) := by decide +kernel
theorem d_Frame_formNumber_13 : decode prog_6_method_12_code 13 = .ok (.istore_n 3, 1) := by decide +kernel
theorem d_Frame_formNumber_14 : decode prog_6_method_12_code 14 = .ok (.iconst 0, 1) := by decide +kernel
theorem d_Frame_formNumber_15 : decode prog_6_method_12_code 15 = .ok (.istore 4, 2) := by decide +kernel
theorem d_Frame_formNumber_17 : decode prog_6_method_12_code 17 = .ok (.iload 4, 2) := by decide +kernel
theorem d_Frame_formNumber_19 : decode prog_6_method_12_code 19 = .ok (.bipush 15, 2) := by decide +kernel
theorem d_Frame_formNumber_21 : decode prog_6_method_12_code 21 = .ok (.if_icmp .ge 37, 3) := by decide +kernel
theorem d_Frame_formNumber_24 : decode prog_6_method_12_code 24 = .ok (.aload_n 0, 1) := by decide +kernel
theorem d_Frame_formNumber_25 : decode prog_6_method_12_code 25 = .ok (.iload_n 2, 1) := by decide +kernel
theorem d_Frame_formNumber_26 : decode prog_6_method_12_code 26 = .ok (.iload 4, 2) := by decide +kernel
theorem d_Frame_formNumber_28 : decode prog_6_method_12_code 28 = .ok (.iload_n 1, 1) := by decide +kernel
theorem d_Frame_formNumber_29 : decode prog_6_method_12_code 29 = .ok (.invokestatic 49, 3) := by decide +kernel
theorem d_Frame_formNumber_32 : decode prog_6_method_12_code 32 = .ok (.iload_n 2, 1) := by decide +kernel
theorem d_Frame_formNumber_33 : decode prog_6_method_12_code 33 = .ok (.iload 4, 2) := by decide +kernel
theorem d_Frame_formNumber_35 : decode prog_6_method_12_code 35 = .ok (.iload_n 1, 1) := by decide +kernel
theorem d_Frame_formNumber_36 : decode prog_6_method_12_code 36 = .ok (.invokestatic 53, 3) := by decide +kernel
theorem d_Frame_formNumber_39 : decode prog_6_method_12_code 39 = .ok (.invokevirtual 80, 3) := by decide +kernel
theorem d_Frame_formNumber_42 : decode prog_6_method_12_code 42 = .ok (.ifCond .eq 10, 3) := by decide +kernel
theorem d_Frame_formNumber_45 : decode prog_6_method_12_code 45 = .ok (.iload_n 3, 1) := by decide +kernel
theorem d_Frame_formNumber_46 : decode prog_6_method_12_code 46 = .ok (.iconst 1, 1) := by decide +kernel
theorem d_Frame_formNumber_47 : decode prog_6_method_12_code 47 = .ok (.iload 4, 2) := by decide +kernel
theorem d_Frame_formNumber_49 : decode prog_6_method_12_code 49 = .ok (.ishl, 1) := by decide +kernel
theorem d_Frame_formNumber_50 : decode prog_6_method_12_code 50 = .ok (.ior, 1) := by decide +kernel
theorem d_Frame_formNumber_51 : decode prog_6_method_12_code 51 = .ok (.istore_n 3, 1) := by decide +kernel
theorem d_Frame_formNumber_52 : decode prog_6_method_12_code 52 = .ok (.iinc 4 1, 3) := by decide +kernel
theorem d_Frame_formNumber_55 : decode prog_6_method_12_code 55 = .ok (.goto (-38), 3) := by decide +kernel
theorem d_Frame_formNumber_58 : decode prog_6_method_12_code 58 = .ok (.iconst 0, 1) := by decide +kernel
theorem d_Frame_formNumber_59 : decode prog_6_method_12_code 59 = .ok (.istore 4, 2) := by decide +kernel
theorem d_Frame_formNumber_61 : decode prog_6_method_12_code 61 = .ok (.iload 4, 2) := by decide +kernel
theorem d_Frame_formNumber_63 : decode prog_6_method_12_code 63 = .ok (.bipush 32, 2) := by decide +kernel
theorem d_Frame_formNumber_65 : decode prog_6_method_12_code 65 = .ok (.if_icmp .ge 26, 3) := by decide +kernel
theorem d_Frame_formNumber_68 : decode prog_6_method_12_code 68 = .ok (.iload 4, 2) := by decide +kernel
theorem d_Frame_formNumber_70 : decode prog_6_method_12_code 70 = .ok (.invokestatic 74, 3) := by decide +kernel
theorem d_Frame_formNumber_73 : decode prog_6_method_12_code 73 = .ok (.iload_n 3, 1) := by decide +kernel
theorem d_Frame_formNumber_74 : decode prog_6_method_12_code 74 = .ok (.ixor, 1) := by decide +kernel
theorem d_Frame_formNumber_75 : decode prog_6_method_12_code 75 = .ok (.invokestatic 84, 3) := by decide +kernel
theorem d_Frame_formNumber_78 : decode prog_6_method_12_code 78 = .ok (.iconst 3, 1) := by decide +kernel
theorem d_Frame_formNumber_79 : decode prog_6_method_12_code 79 = .ok (.if_icmp .gt 6, 3) := by decide +kernel
theorem d_Frame_formNumber_82 : decode prog_6_method_12_code 82 = .ok (.iload 4, 2) := by decide +kernel
theorem d_Frame_formNumber_84 : decode prog_6_method_12_code 84 = .ok (.ireturn, 1) := by decide +kernel
theorem d_Frame_formNumber_85 : decode prog_6_method_12_code 85 = .ok (.iinc 4 1, 3) := by decide +kernel
theorem d_Frame_formNumber_88 : decode prog_6_method_12_code 88 = .ok (.goto (-27), 3) := by decide +kernel
theorem d_Frame_formNumber_91 : decode prog_6_method_12_code 91 = .ok (.iinc 2 1, 3) := by decide +kernel
theorem d_Frame_formNumber_94 : decode prog_6_method_12_code 94 = .ok (.goto (-87), 3) := by decide +kernel
theorem d_Frame_formNumber_97 : decode prog_6_method_12_code 97 = .ok (.iconst (-1), 1) := by decide +kernel
theorem d_Frame_formNumber_98 : decode prog_6_method_12_code 98 = .ok (.ireturn, 1) := by decide +kernel
theorem d_Frame_formX_0 : decode prog_6_method_9_code 0 = .ok (.iload_n 0, 1) := by decide +kernel
theorem d_Frame_formX_1 : decode prog_6_method_9_code 1 = .ok (.iconst 1, 1) := by decide +kernel
theorem d_Frame_formX_2 : decode prog_6_method_9_code 2 = .ok (.if_icmp .ne 20, 3) := by decide +kernel
theorem d_Frame_formX_5 : decode prog_6_method_9_code 5 = .ok (.iload_n 1, 1) := by decide +kernel
theorem d_Frame_formX_6 : decode prog_6_method_9_code 6 = .ok (.bipush 7, 2) := by decide +kernel
theorem d_Frame_formX_8 : decode prog_6_method_9_code 8 = .ok (.if_icmp .gt 11, 3) := by decide +kernel
theorem d_Frame_formX_11 : decode prog_6_method_9_code 11 = .ok (.iload_n 2, 1) := by decide +kernel
theorem d_Frame_formX_12 : decode prog_6_method_9_code 12 = .ok (.iconst 1, 1) := by decide +kernel
theorem d_Frame_formX_13 : decode prog_6_method_9_code 13 = .ok (.isub, 1) := by decide +kernel
theorem d_Frame_formX_14 : decode prog_6_method_9_code 14 = .ok (.iload_n 1, 1) := by decide +kernel
theorem d_Frame_formX_15 : decode prog_6_method_9_code 15 = .ok (.isub, 1) := by decide +kernel
theorem d_Frame_formX_16 : decode prog_6_method_9_code 16 = .ok (.goto 5, 3) := by decide +kernel
theorem d_Frame_formX_19 : decode prog_6_method_9_code 19 = .ok (.bipush 8, 2) := by decide +kernel
theorem d_Frame_formX_21 : decode prog_6_method_9_code 21 = .ok (.ireturn, 1) := by decide +kernel
theorem d_Frame_formX_22 : decode prog_6_method_9_code 22 = .ok (.iload_n 1, 1) := by decide +kernel
theorem d_Frame_formX_23 : decode prog_6_method_9_code 23 = .ok (.bipush 7, 2) := by decide +kernel
theorem d_Frame_formX_25 : decode prog_6_method_9_code 25 = .ok (.if_icmp .gt 8, 3) := by decide +kernel
theorem d_Frame_formX_28 : decode prog_6_method_9_code 28 = .ok (.bipush 8, 2) := by decide +kernel
theorem d_Frame_formX_30 : decode prog_6_method_9_code 30 = .ok (.goto 18, 3) := by decide +kernel
theorem d_Frame_formX_33 : decode prog_6_method_9_code 33 = .ok (.iload_n 1, 1) := by decide +kernel
theorem d_Frame_formX_34 : decode prog_6_method_9_code 34 = .ok (.bipush 8, 2) := by decide +kernel
theorem d_Frame_formX_36 : decode prog_6_method_9_code 36 = .ok (.if_icmp .ne 8, 3) := by decide +kernel
theorem d_Frame_formX_39 : decode prog_6_method_9_code 39 = .ok (.bipush 7, 2) := by decide +kernel
theorem d_Frame_formX_41 : decode prog_6_method_9_code 41 = .ok (.goto 7, 3) := by decide +kernel
theorem d_Frame_formX_44 : decode prog_6_method_9_code 44 = .ok (.bipush 14, 2) := by decide +kernel
theorem d_Frame_formX_46 : decode prog_6_method_9_code 46 = .ok (.iload_n 1, 1) := by decide +kernel
theorem d_Frame_formX_47 : decode prog_6_method_9_code 47 = .ok (.isub, 1) := by decide +kernel
theorem d_Frame_formX_48 : decode prog_6_method_9_code 48 = .ok (.ireturn, 1) := by decide +kernel
theorem d_Frame_formY_0 : decode prog_6_method_10_code 0 = .ok (.iload_n 0, 1) := by decide +kernel
theorem d_Frame_formY_1 : decode prog_6_method_10_code 1 = .ok (.iconst 1, 1) := by decide +kernel
theorem d_Frame_formY_2 : decode prog_6_method_10_code 2 = .ok (.if_icmp .ne 21, 3) := by decide +kernel
theorem d_Frame_formY_5 : decode prog_6_method_10_code 5 = .ok (.iload_n 1, 1) := by decide +kernel
theorem d_Frame_formY_6 : decode prog_6_method_10_code 6 = .ok (.bipush 7, 2) := by decide +kernel
theorem d_Frame_formY_8 : decode prog_6_method_10_code 8 = .ok (.if_icmp .gt 8, 3) := by decide +kernel
theorem d_Frame_formY_11 : decode prog_6_method_10_code 11 = .ok (.bipush 8, 2) := by decide +kernel
theorem d_Frame_formY_13 : decode prog_6_method_10_code 13 = .ok (.goto 9, 3) := by decide +kernel
theorem d_Frame_formY_16 : decode prog_6_method_10_code 16 = .ok (.iload_n 2, 1) := by decide +kernel
theorem d_Frame_formY_17 : decode prog_6_method_10_code 17 = .ok (.bipush 15, 2) := by decide +kernel
theorem d_Frame_formY_19 : decode prog_6_method_10_code 19 = .ok (.isub, 1) := by decide +kernel
theorem d_Frame_formY_20 : decode prog_6_method_10_code 20 = .ok (.iload_n 1, 1) := by decide +kernel
theorem d_Frame_formY_21 : decode prog_6_method_10_code 21 = .ok (.iadd, 1) := by decide +kernel
theorem d_Frame_formY_22 : decode prog_6_method_10_code 22 = .ok (.ireturn, 1) := by decide +kernel
theorem d_Frame_formY_23 : decode prog_6_method_10_code 23 = .ok (.iload_n 1, 1) := by decide +kernel
theorem d_Frame_formY_24 : decode prog_6_method_10_code 24 = .ok (.iconst 5, 1) := by decide +kernel
theorem d_Frame_formY_25 : decode prog_6_method_10_code 25 = .ok (.if_icmp .gt 7, 3) := by decide +kernel
theorem d_Frame_formY_28 : decode prog_6_method_10_code 28 = .ok (.iload_n 1, 1) := by decide +kernel
theorem d_Frame_formY_29 : decode prog_6_method_10_code 29 = .ok (.goto 16, 3) := by decide +kernel
theorem d_Frame_formY_32 : decode prog_6_method_10_code 32 = .ok (.iload_n 1, 1) := by decide +kernel
theorem d_Frame_formY_33 : decode prog_6_method_10_code 33 = .ok (.bipush 6, 2) := by decide +kernel
theorem d_Frame_formY_35 : decode prog_6_method_10_code 35 = .ok (.if_icmp .ne 8, 3) := by decide +kernel
theorem d_Frame_formY_38 : decode prog_6_method_10_code 38 = .ok (.bipush 7, 2) := by decide +kernel
theorem d_Frame_formY_40 : decode prog_6_method_10_code 40 = .ok (.goto 5, 3) := by decide +kernel
theorem d_Frame_formY_43 : decode prog_6_method_10_code 43 = .ok (.bipush 8, 2) := by decide +kernel
theorem d_Frame_formY_45 : decode prog_6_method_10_code 45 = .ok (.ireturn, 1) := by decide +kernel
theorem d_Frame_formWord_0 : decode prog_6_method_8_code 0 = .ok (.iload_n 0, 1) := by decide +kernel
theorem d_Frame_formWord_1 : decode prog_6_method_8_code 1 = .ok (.bipush 10, 2) := by decide +kernel
theorem d_Frame_formWord_3 : decode prog_6_method_8_code 3 = .ok (.sipush 1335, 3) := by decide +kernel
theorem d_Frame_formWord_6 : decode prog_6_method_8_code 6 = .ok (.invokestatic 71, 3) := by decide +kernel
theorem d_Frame_formWord_9 : decode prog_6_method_8_code 9 = .ok (.sipush 21522, 3) := by decide +kernel
theorem d_Frame_formWord_12 : decode prog_6_method_8_code 12 = .ok (.ixor, 1) := by decide +kernel
theorem d_Frame_formWord_13 : decode prog_6_method_8_code 13 = .ok (.ireturn, 1) := by decide +kernel
theorem d_Frame_withRest_0 : decode prog_6_method_7_code 0 = .ok (.iload_n 0, 1) := by decide +kernel
theorem d_Frame_withRest_1 : decode prog_6_method_7_code 1 = .ok (.iload_n 1, 1) := by decide +kernel
theorem d_Frame_withRest_2 : decode prog_6_method_7_code 2 = .ok (.ishl, 1) := by decide +kernel
theorem d_Frame_withRest_3 : decode prog_6_method_7_code 3 = .ok (.istore_n 3, 1) := by decide +kernel
theorem d_Frame_withRest_4 : decode prog_6_method_7_code 4 = .ok (.bipush 17, 2) := by decide +kernel
theorem d_Frame_withRest_6 : decode prog_6_method_7_code 6 = .ok (.istore 4, 2) := by decide +kernel
theorem d_Frame_withRest_8 : decode prog_6_method_7_code 8 = .ok (.iload 4, 2) := by decide +kernel
theorem d_Frame_withRest_10 : decode prog_6_method_7_code 10 = .ok (.iload_n 1, 1) := by decide +kernel
theorem d_Frame_withRest_11 : decode prog_6_method_7_code 11 = .ok (.if_icmp .lt 28, 3) := by decide +kernel
theorem d_Frame_withRest_14 : decode prog_6_method_7_code 14 = .ok (.iload_n 3, 1) := by decide +kernel
theorem d_Frame_withRest_15 : decode prog_6_method_7_code 15 = .ok (.iload 4, 2) := by decide +kernel
theorem d_Frame_withRest_17 : decode prog_6_method_7_code 17 = .ok (.ishr, 1) := by decide +kernel
theorem d_Frame_withRest_18 : decode prog_6_method_7_code 18 = .ok (.iconst 1, 1) := by decide +kernel
theorem d_Frame_withRest_19 : decode prog_6_method_7_code 19 = .ok (.iand, 1) := by decide +kernel
theorem d_Frame_withRest_20 : decode prog_6_method_7_code 20 = .ok (.iconst 1, 1) := by decide +kernel
theorem d_Frame_withRest_21 : decode prog_6_method_7_code 21 = .ok (.if_icmp .ne 12, 3) := by decide +kernel
theorem d_Frame_withRest_24 : decode prog_6_method_7_code 24 = .ok (.iload_n 3, 1) := by decide +kernel
theorem d_Frame_withRest_25 : decode prog_6_method_7_code 25 = .ok (.iload_n 2, 1) := by decide +kernel
theorem d_Frame_withRest_26 : decode prog_6_method_7_code 26 = .ok (.iload 4, 2) := by decide +kernel
theorem d_Frame_withRest_28 : decode prog_6_method_7_code 28 = .ok (.iload_n 1, 1) := by decide +kernel
theorem d_Frame_withRest_29 : decode prog_6_method_7_code 29 = .ok (.isub, 1) := by decide +kernel
theorem d_Frame_withRest_30 : decode prog_6_method_7_code 30 = .ok (.ishl, 1) := by decide +kernel
theorem d_Frame_withRest_31 : decode prog_6_method_7_code 31 = .ok (.ixor, 1) := by decide +kernel
theorem d_Frame_withRest_32 : decode prog_6_method_7_code 32 = .ok (.istore_n 3, 1) := by decide +kernel
theorem d_Frame_withRest_33 : decode prog_6_method_7_code 33 = .ok (.iinc 4 (-1), 3) := by decide +kernel
theorem d_Frame_withRest_36 : decode prog_6_method_7_code 36 = .ok (.goto (-28), 3) := by decide +kernel
theorem d_Frame_withRest_39 : decode prog_6_method_7_code 39 = .ok (.iload_n 0, 1) := by decide +kernel
theorem d_Frame_withRest_40 : decode prog_6_method_7_code 40 = .ok (.iload_n 1, 1) := by decide +kernel
theorem d_Frame_withRest_41 : decode prog_6_method_7_code 41 = .ok (.ishl, 1) := by decide +kernel
theorem d_Frame_withRest_42 : decode prog_6_method_7_code 42 = .ok (.iload_n 3, 1) := by decide +kernel
theorem d_Frame_withRest_43 : decode prog_6_method_7_code 43 = .ok (.ior, 1) := by decide +kernel
theorem d_Frame_withRest_44 : decode prog_6_method_7_code 44 = .ok (.ireturn, 1) := by decide +kernel
theorem d_Frame_lay_0 : decode prog_6_method_2_code 0 = .ok (.aload_n 0, 1) := by decide +kernel
theorem d_Frame_lay_1 : decode prog_6_method_2_code 1 = .ok (.iload_n 1, 1) := by decide +kernel
theorem d_Frame_lay_2 : decode prog_6_method_2_code 2 = .ok (.invokestatic 25, 3) := by decide +kernel
theorem d_Frame_lay_5 : decode prog_6_method_2_code 5 = .ok (.putfield 31, 3) := by decide +kernel
theorem d_Frame_lay_8 : decode prog_6_method_2_code 8 = .ok (.aload_n 0, 1) := by decide +kernel
theorem d_Frame_lay_9 : decode prog_6_method_2_code 9 = .ok (.getfield 12, 3) := by decide +kernel
theorem d_Frame_lay_12 : decode prog_6_method_2_code 12 = .ok (.aload_n 0, 1) := by decide +kernel
theorem d_Frame_lay_13 : decode prog_6_method_2_code 13 = .ok (.getfield 31, 3) := by decide +kernel
theorem d_Frame_lay_16 : decode prog_6_method_2_code 16 = .ok (.invokevirtual 34, 3) := by decide +kernel
theorem d_Frame_lay_19 : decode prog_6_method_2_code 19 = .ok (.aload_n 0, 1) := by decide +kernel
theorem d_Frame_lay_20 : decode prog_6_method_2_code 20 = .ok (.getfield 18, 3) := by decide +kernel
theorem d_Frame_lay_23 : decode prog_6_method_2_code 23 = .ok (.aload_n 0, 1) := by decide +kernel
theorem d_Frame_lay_24 : decode prog_6_method_2_code 24 = .ok (.getfield 31, 3) := by decide +kernel
theorem d_Frame_lay_27 : decode prog_6_method_2_code 27 = .ok (.invokevirtual 34, 3) := by decide +kernel
theorem d_Frame_lay_30 : decode prog_6_method_2_code 30 = .ok (.iconst 0, 1) := by decide +kernel
theorem d_Frame_lay_31 : decode prog_6_method_2_code 31 = .ok (.istore_n 2, 1) := by decide +kernel
theorem d_Frame_lay_32 : decode prog_6_method_2_code 32 = .ok (.iload_n 2, 1) := by decide +kernel
theorem d_Frame_lay_33 : decode prog_6_method_2_code 33 = .ok (.aload_n 0, 1) := by decide +kernel
theorem d_Frame_lay_34 : decode prog_6_method_2_code 34 = .ok (.getfield 31, 3) := by decide +kernel
theorem d_Frame_lay_37 : decode prog_6_method_2_code 37 = .ok (.if_icmp .ge 45, 3) := by decide +kernel
theorem d_Frame_lay_40 : decode prog_6_method_2_code 40 = .ok (.aload_n 0, 1) := by decide +kernel
theorem d_Frame_lay_41 : decode prog_6_method_2_code 41 = .ok (.iload_n 2, 1) := by decide +kernel
theorem d_Frame_lay_42 : decode prog_6_method_2_code 42 = .ok (.bipush 6, 2) := by decide +kernel
theorem d_Frame_lay_44 : decode prog_6_method_2_code 44 = .ok (.iload_n 2, 1) := by decide +kernel
theorem d_Frame_lay_45 : decode prog_6_method_2_code 45 = .ok (.iconst 2, 1) := by decide +kernel
theorem d_Frame_lay_46 : decode prog_6_method_2_code 46 = .ok (.irem, 1) := by decide +kernel
theorem d_Frame_lay_47 : decode prog_6_method_2_code 47 = .ok (.ifCond .ne 7, 3) := by decide +kernel
theorem d_Frame_lay_50 : decode prog_6_method_2_code 50 = .ok (.iconst 1, 1) := by decide +kernel
theorem d_Frame_lay_51 : decode prog_6_method_2_code 51 = .ok (.goto 4, 3) := by decide +kernel
theorem d_Frame_lay_54 : decode prog_6_method_2_code 54 = .ok (.iconst 0, 1) := by decide +kernel
theorem d_Frame_lay_55 : decode prog_6_method_2_code 55 = .ok (.invokevirtual 38, 3) := by decide +kernel
theorem d_Frame_lay_58 : decode prog_6_method_2_code 58 = .ok (.aload_n 0, 1) := by decide +kernel
theorem d_Frame_lay_59 : decode prog_6_method_2_code 59 = .ok (.bipush 6, 2) := by decide +kernel
theorem d_Frame_lay_61 : decode prog_6_method_2_code 61 = .ok (.iload_n 2, 1) := by decide +kernel
theorem d_Frame_lay_62 : decode prog_6_method_2_code 62 = .ok (.iload_n 2, 1) := by decide +kernel
theorem d_Frame_lay_63 : decode prog_6_method_2_code 63 = .ok (.iconst 2, 1) := by decide +kernel
theorem d_Frame_lay_64 : decode prog_6_method_2_code 64 = .ok (.irem, 1) := by decide +kernel
theorem d_Frame_lay_65 : decode prog_6_method_2_code 65 = .ok (.ifCond .ne 7, 3) := by decide +kernel
theorem d_Frame_lay_68 : decode prog_6_method_2_code 68 = .ok (.iconst 1, 1) := by decide +kernel
theorem d_Frame_lay_69 : decode prog_6_method_2_code 69 = .ok (.goto 4, 3) := by decide +kernel
theorem d_Frame_lay_72 : decode prog_6_method_2_code 72 = .ok (.iconst 0, 1) := by decide +kernel
theorem d_Frame_lay_73 : decode prog_6_method_2_code 73 = .ok (.invokevirtual 38, 3) := by decide +kernel
theorem d_Frame_lay_76 : decode prog_6_method_2_code 76 = .ok (.iinc 2 1, 3) := by decide +kernel
theorem d_Frame_lay_79 : decode prog_6_method_2_code 79 = .ok (.goto (-47), 3) := by decide +kernel
theorem d_Frame_lay_82 : decode prog_6_method_2_code 82 = .ok (.aload_n 0, 1) := by decide +kernel
theorem d_Frame_lay_83 : decode prog_6_method_2_code 83 = .ok (.iconst 3, 1) := by decide +kernel
theorem d_Frame_lay_84 : decode prog_6_method_2_code 84 = .ok (.iconst 3, 1) := by decide +kernel
theorem d_Frame_lay_85 : decode prog_6_method_2_code 85 = .ok (.iconst 4, 1) := by decide +kernel
theorem d_Frame_lay_86 : decode prog_6_method_2_code 86 = .ok (.bipush 11, 2) := by decide +kernel
theorem d_Frame_lay_88 : decode prog_6_method_2_code 88 = .ok (.invokevirtual 42, 3) := by decide +kernel
theorem d_Frame_lay_91 : decode prog_6_method_2_code 91 = .ok (.aload_n 0, 1) := by decide +kernel
theorem d_Frame_lay_92 : decode prog_6_method_2_code 92 = .ok (.aload_n 0, 1) := by decide +kernel
theorem d_Frame_lay_93 : decode prog_6_method_2_code 93 = .ok (.getfield 31, 3) := by decide +kernel
theorem d_Frame_lay_96 : decode prog_6_method_2_code 96 = .ok (.iconst 4, 1) := by decide +kernel
theorem d_Frame_lay_97 : decode prog_6_method_2_code 97 = .ok (.isub, 1) := by decide +kernel
theorem d_Frame_lay_98 : decode prog_6_method_2_code 98 = .ok (.iconst 3, 1) := by decide +kernel
theorem d_Frame_lay_99 : decode prog_6_method_2_code 99 = .ok (.iconst 4, 1) := by decide +kernel
theorem d_Frame_lay_100 : decode prog_6_method_2_code 100 = .ok (.bipush 11, 2) := by decide +kernel
theorem d_Frame_lay_102 : decode prog_6_method_2_code 102 = .ok (.invokevirtual 42, 3) := by decide +kernel
theorem d_Frame_lay_105 : decode prog_6_method_2_code 105 = .ok (.aload_n 0, 1) := by decide +kernel
theorem d_Frame_lay_106 : decode prog_6_method_2_code 106 = .ok (.iconst 3, 1) := by decide +kernel
theorem d_Frame_lay_107 : decode prog_6_method_2_code 107 = .ok (.aload_n 0, 1) := by decide +kernel
theorem d_Frame_lay_108 : decode prog_6_method_2_code 108 = .ok (.getfield 31, 3) := by decide +kernel
theorem d_Frame_lay_111 : decode prog_6_method_2_code 111 = .ok (.iconst 4, 1) := by decide +kernel
theorem d_Frame_lay_112 : decode prog_6_method_2_code 112 = .ok (.isub, 1) := by decide +kernel
theorem d_Frame_lay_113 : decode prog_6_method_2_code 113 = .ok (.iconst 4, 1) := by decide +kernel
theorem d_Frame_lay_114 : decode prog_6_method_2_code 114 = .ok (.bipush 11, 2) := by decide +kernel
theorem d_Frame_lay_116 : decode prog_6_method_2_code 116 = .ok (.invokevirtual 42, 3) := by decide +kernel
theorem d_Frame_lay_119 : decode prog_6_method_2_code 119 = .ok (.iload_n 1, 1) := by decide +kernel
theorem d_Frame_lay_120 : decode prog_6_method_2_code 120 = .ok (.iconst 1, 1) := by decide +kernel
theorem d_Frame_lay_121 : decode prog_6_method_2_code 121 = .ok (.if_icmp .le 8, 3) := by decide +kernel
theorem d_Frame_lay_124 : decode prog_6_method_2_code 124 = .ok (.aload_n 0, 1) := by decide +kernel
theorem d_Frame_lay_125 : decode prog_6_method_2_code 125 = .ok (.iload_n 1, 1) := by decide +kernel
theorem d_Frame_lay_126 : decode prog_6_method_2_code 126 = .ok (.invokevirtual 46, 3) := by decide +kernel
theorem d_Frame_lay_129 : decode prog_6_method_2_code 129 = .ok (.aload_n 0, 1) := by decide +kernel
theorem d_Frame_lay_130 : decode prog_6_method_2_code 130 = .ok (.bipush 8, 2) := by decide +kernel
theorem d_Frame_lay_132 : decode prog_6_method_2_code 132 = .ok (.aload_n 0, 1) := by decide +kernel
theorem d_Frame_lay_133 : decode prog_6_method_2_code 133 = .ok (.getfield 31, 3) := by decide +kernel
theorem d_Frame_lay_136 : decode prog_6_method_2_code 136 = .ok (.bipush 8, 2) := by decide +kernel
theorem d_Frame_lay_138 : decode prog_6_method_2_code 138 = .ok (.isub, 1) := by decide +kernel
theorem d_Frame_lay_139 : decode prog_6_method_2_code 139 = .ok (.iconst 1, 1) := by decide +kernel
theorem d_Frame_lay_140 : decode prog_6_method_2_code 140 = .ok (.invokevirtual 38, 3) := by decide +kernel
theorem d_Frame_lay_143 : decode prog_6_method_2_code 143 = .ok (.iconst 0, 1) := by decide +kernel
theorem d_Frame_lay_144 : decode prog_6_method_2_code 144 = .ok (.istore_n 2, 1) := by decide +kernel
theorem d_Frame_lay_145 : decode prog_6_method_2_code 145 = .ok (.iload_n 2, 1) := by decide +kernel
theorem d_Frame_lay_146 : decode prog_6_method_2_code 146 = .ok (.bipush 15, 2) := by decide +kernel
theorem d_Frame_lay_148 : decode prog_6_method_2_code 148 = .ok (.if_icmp .ge 55, 3) := by decide +kernel
theorem d_Frame_lay_151 : decode prog_6_method_2_code 151 = .ok (.aload_n 0, 1) := by decide +kernel
theorem d_Frame_lay_152 : decode prog_6_method_2_code 152 = .ok (.iconst 0, 1) := by decide +kernel
theorem d_Frame_lay_153 : decode prog_6_method_2_code 153 = .ok (.iload_n 2, 1) := by decide +kernel
theorem d_Frame_lay_154 : decode prog_6_method_2_code 154 = .ok (.aload_n 0, 1) := by decide +kernel
theorem d_Frame_lay_155 : decode prog_6_method_2_code 155 = .ok (.getfield 31, 3) := by decide +kernel
theorem d_Frame_lay_158 : decode prog_6_method_2_code 158 = .ok (.invokestatic 49, 3) := by decide +kernel
theorem d_Frame_lay_161 : decode prog_6_method_2_code 161 = .ok (.iconst 0, 1) := by decide +kernel
theorem d_Frame_lay_162 : decode prog_6_method_2_code 162 = .ok (.iload_n 2, 1) := by decide +kernel
theorem d_Frame_lay_163 : decode prog_6_method_2_code 163 = .ok (.aload_n 0, 1) := by decide +kernel
theorem d_Frame_lay_164 : decode prog_6_method_2_code 164 = .ok (.getfield 31, 3) := by decide +kernel
theorem d_Frame_lay_167 : decode prog_6_method_2_code 167 = .ok (.invokestatic 53, 3) := by decide +kernel
theorem d_Frame_lay_170 : decode prog_6_method_2_code 170 = .ok (.iconst 0, 1) := by decide +kernel
theorem d_Frame_lay_171 : decode prog_6_method_2_code 171 = .ok (.invokevirtual 38, 3) := by decide +kernel
theorem d_Frame_lay_174 : decode prog_6_method_2_code 174 = .ok (.aload_n 0, 1) := by decide +kernel
theorem d_Frame_lay_175 : decode prog_6_method_2_code 175 = .ok (.iconst 1, 1) := by decide +kernel
theorem d_Frame_lay_176 : decode prog_6_method_2_code 176 = .ok (.iload_n 2, 1) := by decide +kernel
theorem d_Frame_lay_177 : decode prog_6_method_2_code 177 = .ok (.aload_n 0, 1) := by decide +kernel
theorem d_Frame_lay_178 : decode prog_6_method_2_code 178 = .ok (.getfield 31, 3) := by decide +kernel
theorem d_Frame_lay_181 : decode prog_6_method_2_code 181 = .ok (.invokestatic 49, 3) := by decide +kernel
theorem d_Frame_lay_184 : decode prog_6_method_2_code 184 = .ok (.iconst 1, 1) := by decide +kernel
theorem d_Frame_lay_185 : decode prog_6_method_2_code 185 = .ok (.iload_n 2, 1) := by decide +kernel
theorem d_Frame_lay_186 : decode prog_6_method_2_code 186 = .ok (.aload_n 0, 1) := by decide +kernel
theorem d_Frame_lay_187 : decode prog_6_method_2_code 187 = .ok (.getfield 31, 3) := by decide +kernel
theorem d_Frame_lay_190 : decode prog_6_method_2_code 190 = .ok (.invokestatic 53, 3) := by decide +kernel
theorem d_Frame_lay_193 : decode prog_6_method_2_code 193 = .ok (.iconst 0, 1) := by decide +kernel
theorem d_Frame_lay_194 : decode prog_6_method_2_code 194 = .ok (.invokevirtual 38, 3) := by decide +kernel
theorem d_Frame_lay_197 : decode prog_6_method_2_code 197 = .ok (.iinc 2 1, 3) := by decide +kernel
theorem d_Frame_lay_200 : decode prog_6_method_2_code 200 = .ok (.goto (-55), 3) := by decide +kernel
theorem d_Frame_lay_203 : decode prog_6_method_2_code 203 = .ok (.iload_n 1, 1) := by decide +kernel
theorem d_Frame_lay_204 : decode prog_6_method_2_code 204 = .ok (.bipush 6, 2) := by decide +kernel
theorem d_Frame_lay_206 : decode prog_6_method_2_code 206 = .ok (.if_icmp .le 8, 3) := by decide +kernel
theorem d_Frame_lay_209 : decode prog_6_method_2_code 209 = .ok (.aload_n 0, 1) := by decide +kernel
theorem d_Frame_lay_210 : decode prog_6_method_2_code 210 = .ok (.iload_n 1, 1) := by decide +kernel
theorem d_Frame_lay_211 : decode prog_6_method_2_code 211 = .ok (.invokevirtual 56, 3) := by decide +kernel
theorem d_Frame_lay_214 : decode prog_6_method_2_code 214 = .ok (.return_, 1) := by decide +kernel
theorem d_Frame_fix_0 : decode prog_6_method_3_code 0 = .ok (.aload_n 0, 1) := by decide +kernel
theorem d_Frame_fix_1 : decode prog_6_method_3_code 1 = .ok (.getfield 12, 3) := by decide +kernel
theorem d_Frame_fix_4 : decode prog_6_method_3_code 4 = .ok (.iload_n 1, 1) := by decide +kernel
theorem d_Frame_fix_5 : decode prog_6_method_3_code 5 = .ok (.iload_n 2, 1) := by decide +kernel
theorem d_Frame_fix_6 : decode prog_6_method_3_code 6 = .ok (.iconst 1, 1) := by decide +kernel
theorem d_Frame_fix_7 : decode prog_6_method_3_code 7 = .ok (.invokevirtual 59, 3) := by decide +kernel
theorem d_Frame_fix_10 : decode prog_6_method_3_code 10 = .ok (.aload_n 0, 1) := by decide +kernel
theorem d_Frame_fix_11 : decode prog_6_method_3_code 11 = .ok (.getfield 18, 3) := by decide +kernel
theorem d_Frame_fix_14 : decode prog_6_method_3_code 14 = .ok (.iload_n 1, 1) := by decide +kernel
theorem d_Frame_fix_15 : decode prog_6_method_3_code 15 = .ok (.iload_n 2, 1) := by decide +kernel
theorem d_Frame_fix_16 : decode prog_6_method_3_code 16 = .ok (.iload_n 3, 1) := by decide +kernel
theorem d_Frame_fix_17 : decode prog_6_method_3_code 17 = .ok (.invokevirtual 59, 3) := by decide +kernel
theorem d_Frame_fix_20 : decode prog_6_method_3_code 20 = .ok (.return_, 1) := by decide +kernel
theorem d_Frame_layRings_0 : decode prog_6_method_4_code 0 = .ok (.iload_n 3, 1) := by decide +kernel
theorem d_Frame_layRings_1 : decode prog_6_method_4_code 1 = .ok (.ineg, 1) := by decide +kernel
theorem d_Frame_layRings_2 : decode prog_6_method_4_code 2 = .ok (.istore 5, 2) := by decide +kernel
theorem d_Frame_layRings_4 : decode prog_6_method_4_code 4 = .ok (.iload 5, 2) := by decide +kernel
theorem d_Frame_layRings_6 : decode prog_6_method_4_code 6 = .ok (.iload_n 3, 1) := by decide +kernel
theorem d_Frame_layRings_7 : decode prog_6_method_4_code 7 = .ok (.if_icmp .gt 68, 3) := by decide +kernel
theorem d_Frame_layRings_10 : decode prog_6_method_4_code 10 = .ok (.iload_n 3, 1) := by decide +kernel
theorem d_Frame_layRings_11 : decode prog_6_method_4_code 11 = .ok (.ineg, 1) := by decide +kernel
theorem d_Frame_layRings_12 : decode prog_6_method_4_code 12 = .ok (.istore 6, 2) := by decide +kernel
theorem d_Frame_layRings_14 : decode prog_6_method_4_code 14 = .ok (.iload 6, 2) := by decide +kernel
theorem d_Frame_layRings_16 : decode prog_6_method_4_code 16 = .ok (.iload_n 3, 1) := by decide +kernel
theorem d_Frame_layRings_17 : decode prog_6_method_4_code 17 = .ok (.if_icmp .gt 52, 3) := by decide +kernel
theorem d_Frame_layRings_20 : decode prog_6_method_4_code 20 = .ok (.iload 6, 2) := by decide +kernel
theorem d_Frame_layRings_22 : decode prog_6_method_4_code 22 = .ok (.invokestatic 62, 3) := by decide +kernel
theorem d_Frame_layRings_25 : decode prog_6_method_4_code 25 = .ok (.iload 5, 2) := by decide +kernel
theorem d_Frame_layRings_27 : decode prog_6_method_4_code 27 = .ok (.invokestatic 62, 3) := by decide +kernel
theorem d_Frame_layRings_30 : decode prog_6_method_4_code 30 = .ok (.invokestatic 67, 3) := by decide +kernel
theorem d_Frame_layRings_33 : decode prog_6_method_4_code 33 = .ok (.istore 7, 2) := by decide +kernel
theorem d_Frame_layRings_35 : decode prog_6_method_4_code 35 = .ok (.aload_n 0, 1) := by decide +kernel
theorem d_Frame_layRings_36 : decode prog_6_method_4_code 36 = .ok (.iload_n 1, 1) := by decide +kernel
theorem d_Frame_layRings_37 : decode prog_6_method_4_code 37 = .ok (.iload 6, 2) := by decide +kernel
theorem d_Frame_layRings_39 : decode prog_6_method_4_code 39 = .ok (.iadd, 1) := by decide +kernel
theorem d_Frame_layRings_40 : decode prog_6_method_4_code 40 = .ok (.iload_n 2, 1) := by decide +kernel
theorem d_Frame_layRings_41 : decode prog_6_method_4_code 41 = .ok (.iload 5, 2) := by decide +kernel
theorem d_Frame_layRings_43 : decode prog_6_method_4_code 43 = .ok (.iadd, 1) := by decide +kernel
theorem d_Frame_layRings_44 : decode prog_6_method_4_code 44 = .ok (.iload 4, 2) := by decide +kernel
theorem d_Frame_layRings_46 : decode prog_6_method_4_code 46 = .ok (.iload 7, 2) := by decide +kernel
theorem d_Frame_layRings_48 : decode prog_6_method_4_code 48 = .ok (.ishr, 1) := by decide +kernel
theorem d_Frame_layRings_49 : decode prog_6_method_4_code 49 = .ok (.iconst 1, 1) := by decide +kernel
theorem d_Frame_layRings_50 : decode prog_6_method_4_code 50 = .ok (.iand, 1) := by decide +kernel
theorem d_Frame_layRings_51 : decode prog_6_method_4_code 51 = .ok (.iconst 1, 1) := by decide +kernel
theorem d_Frame_layRings_52 : decode prog_6_method_4_code 52 = .ok (.if_icmp .ne 7, 3) := by decide +kernel
theorem d_Frame_layRings_55 : decode prog_6_method_4_code 55 = .ok (.iconst 1, 1) := by decide +kernel
theorem d_Frame_layRings_56 : decode prog_6_method_4_code 56 = .ok (.goto 4, 3) := by decide +kernel
theorem d_Frame_layRings_59 : decode prog_6_method_4_code 59 = .ok (.iconst 0, 1) := by decide +kernel
theorem d_Frame_layRings_60 : decode prog_6_method_4_code 60 = .ok (.invokevirtual 38, 3) := by decide +kernel
theorem d_Frame_layRings_63 : decode prog_6_method_4_code 63 = .ok (.iinc 6 1, 3) := by decide +kernel
theorem d_Frame_layRings_66 : decode prog_6_method_4_code 66 = .ok (.goto (-52), 3) := by decide +kernel
theorem d_Frame_layRings_69 : decode prog_6_method_4_code 69 = .ok (.iinc 5 1, 3) := by decide +kernel
theorem d_Frame_layRings_72 : decode prog_6_method_4_code 72 = .ok (.goto (-68), 3) := by decide +kernel
theorem d_Frame_layRings_75 : decode prog_6_method_4_code 75 = .ok (.return_, 1) := by decide +kernel
theorem d_Frame_layAlignments_0 : decode prog_6_method_5_code 0 = .ok (.iload_n 1, 1) := by decide +kernel
theorem d_Frame_layAlignments_1 : decode prog_6_method_5_code 1 = .ok (.bipush 7, 2) := by decide +kernel
theorem d_Frame_layAlignments_3 : decode prog_6_method_5_code 3 = .ok (.idiv, 1) := by decide +kernel
theorem d_Frame_layAlignments_4 : decode prog_6_method_5_code 4 = .ok (.iconst 2, 1) := by decide +kernel
theorem d_Frame_layAlignments_5 : decode prog_6_method_5_code 5 = .ok (.iadd, 1) := by decide +kernel
theorem d_Frame_layAlignments_6 : decode prog_6_method_5_code 6 = .ok (.istore_n 2, 1) := by decide +kernel
theorem d_Frame_layAlignments_7 : decode prog_6_method_5_code 7 = .ok (.iload_n 2, 1) := by decide +kernel
theorem d_Frame_layAlignments_8 : decode prog_6_method_5_code 8 = .ok (.iconst 1, 1) := by decide +kernel
theorem d_Frame_layAlignments_9 : decode prog_6_method_5_code 9 = .ok (.isub, 1) := by decide +kernel
theorem d_Frame_layAlignments_10 : decode prog_6_method_5_code 10 = .ok (.istore_n 3, 1) := by decide +kernel
theorem d_Frame_layAlignments_11 : decode prog_6_method_5_code 11 = .ok (.iload_n 1, 1) := by decide +kernel
theorem d_Frame_layAlignments_12 : decode prog_6_method_5_code 12 = .ok (.bipush 32, 2) := by decide +kernel
theorem d_Frame_layAlignments_14 : decode prog_6_method_5_code 14 = .ok (.if_icmp .ne 8, 3) := by decide +kernel
theorem d_Frame_layAlignments_17 : decode prog_6_method_5_code 17 = .ok (.bipush 26, 2) := by decide +kernel
theorem d_Frame_layAlignments_19 : decode prog_6_method_5_code 19 = .ok (.goto 22, 3) := by decide +kernel
theorem d_Frame_layAlignments_22 : decode prog_6_method_5_code 22 = .ok (.iconst 4, 1) := by decide +kernel
theorem d_Frame_layAlignments_23 : decode prog_6_method_5_code 23 = .ok (.iload_n 1, 1) := by decide +kernel
theorem d_Frame_layAlignments_24 : decode prog_6_method_5_code 24 = .ok (.imul, 1) := by decide +kernel
theorem d_Frame_layAlignments_25 : decode prog_6_method_5_code 25 = .ok (.iconst 2, 1) := by decide +kernel
theorem d_Frame_layAlignments_26 : decode prog_6_method_5_code 26 = .ok (.iload_n 2, 1) := by decide +kernel
theorem d_Frame_layAlignments_27 : decode prog_6_method_5_code 27 = .ok (.imul, 1) := by decide +kernel
theorem d_Frame_layAlignments_28 : decode prog_6_method_5_code 28 = .ok (.iadd, 1) := by decide +kernel
theorem d_Frame_layAlignments_29 : decode prog_6_method_5_code 29 = .ok (.iconst 1, 1) := by decide +kernel
theorem d_Frame_layAlignments_30 : decode prog_6_method_5_code 30 = .ok (.iadd, 1) := by decide +kernel
theorem d_Frame_layAlignments_31 : decode prog_6_method_5_code 31 = .ok (.iconst 1, 1) := by decide +kernel
theorem d_Frame_layAlignments_32 : decode prog_6_method_5_code 32 = .ok (.iconst 2, 1) := by decide +kernel
theorem d_Frame_layAlignments_33 : decode prog_6_method_5_code 33 = .ok (.iload_n 3, 1) := by decide +kernel
theorem d_Frame_layAlignments_34 : decode prog_6_method_5_code 34 = .ok (.imul, 1) := by decide +kernel
theorem d_Frame_layAlignments_35 : decode prog_6_method_5_code 35 = .ok (.invokestatic 67, 3) := by decide +kernel
theorem d_Frame_layAlignments_38 : decode prog_6_method_5_code 38 = .ok (.idiv, 1) := by decide +kernel
theorem d_Frame_layAlignments_39 : decode prog_6_method_5_code 39 = .ok (.iconst 2, 1) := by decide +kernel
theorem d_Frame_layAlignments_40 : decode prog_6_method_5_code 40 = .ok (.imul, 1) := by decide +kernel
theorem d_Frame_layAlignments_41 : decode prog_6_method_5_code 41 = .ok (.istore 4, 2) := by decide +kernel
theorem d_Frame_layAlignments_43 : decode prog_6_method_5_code 43 = .ok (.iconst 0, 1) := by decide +kernel
theorem d_Frame_layAlignments_44 : decode prog_6_method_5_code 44 = .ok (.istore 5, 2) := by decide +kernel
theorem d_Frame_layAlignments_46 : decode prog_6_method_5_code 46 = .ok (.iload 5, 2) := by decide +kernel
theorem d_Frame_layAlignments_48 : decode prog_6_method_5_code 48 = .ok (.iload_n 2, 1) := by decide +kernel
theorem d_Frame_layAlignments_49 : decode prog_6_method_5_code 49 = .ok (.if_icmp .ge 127, 3) := by decide +kernel
theorem d_Frame_layAlignments_52 : decode prog_6_method_5_code 52 = .ok (.iconst 0, 1) := by decide +kernel
theorem d_Frame_layAlignments_53 : decode prog_6_method_5_code 53 = .ok (.istore 6, 2) := by decide +kernel
theorem d_Frame_layAlignments_55 : decode prog_6_method_5_code 55 = .ok (.iload 6, 2) := by decide +kernel
theorem d_Frame_layAlignments_57 : decode prog_6_method_5_code 57 = .ok (.iload_n 2, 1) := by decide +kernel
theorem d_Frame_layAlignments_58 : decode prog_6_method_5_code 58 = .ok (.if_icmp .ge 112, 3) := by decide +kernel
theorem d_Frame_layAlignments_61 : decode prog_6_method_5_code 61 = .ok (.iload 5, 2) := by decide +kernel
theorem d_Frame_layAlignments_63 : decode prog_6_method_5_code 63 = .ok (.ifCond .ne 14, 3) := by decide +kernel
theorem d_Frame_layAlignments_66 : decode prog_6_method_5_code 66 = .ok (.iload 6, 2) := by decide +kernel
theorem d_Frame_layAlignments_68 : decode prog_6_method_5_code 68 = .ok (.ifCond .eq 20, 3) := by decide +kernel
theorem d_Frame_layAlignments_71 : decode prog_6_method_5_code 71 = .ok (.iload 6, 2) := by decide +kernel
theorem d_Frame_layAlignments_73 : decode prog_6_method_5_code 73 = .ok (.iload_n 3, 1) := by decide +kernel
theorem d_Frame_layAlignments_74 : decode prog_6_method_5_code 74 = .ok (.if_icmp .eq 14, 3) := by decide +kernel
theorem d_Frame_layAlignments_77 : decode prog_6_method_5_code 77 = .ok (.iload 5, 2) := by decide +kernel
theorem d_Frame_layAlignments_79 : decode prog_6_method_5_code 79 = .ok (.iload_n 3, 1) := by decide +kernel
theorem d_Frame_layAlignments_80 : decode prog_6_method_5_code 80 = .ok (.if_icmp .ne 12, 3) := by decide +kernel
theorem d_Frame_layAlignments_83 : decode prog_6_method_5_code 83 = .ok (.iload 6, 2) := by decide +kernel
theorem d_Frame_layAlignments_85 : decode prog_6_method_5_code 85 = .ok (.ifCond .ne 7, 3) := by decide +kernel
theorem d_Frame_layAlignments_88 : decode prog_6_method_5_code 88 = .ok (.iconst 1, 1) := by decide +kernel
theorem d_Frame_layAlignments_89 : decode prog_6_method_5_code 89 = .ok (.goto 4, 3) := by decide +kernel
theorem d_Frame_layAlignments_92 : decode prog_6_method_5_code 92 = .ok (.iconst 0, 1) := by decide +kernel
theorem d_Frame_layAlignments_93 : decode prog_6_method_5_code 93 = .ok (.istore 7, 2) := by decide +kernel
theorem d_Frame_layAlignments_95 : decode prog_6_method_5_code 95 = .ok (.iload 7, 2) := by decide +kernel
theorem d_Frame_layAlignments_97 : decode prog_6_method_5_code 97 = .ok (.ifCond .ne 67, 3) := by decide +kernel
theorem d_Frame_layAlignments_100 : decode prog_6_method_5_code 100 = .ok (.iload 5, 2) := by decide +kernel
theorem d_Frame_layAlignments_102 : decode prog_6_method_5_code 102 = .ok (.ifCond .ne 8, 3) := by decide +kernel
theorem d_Frame_layAlignments_105 : decode prog_6_method_5_code 105 = .ok (.bipush 6, 2) := by decide +kernel
theorem d_Frame_layAlignments_107 : decode prog_6_method_5_code 107 = .ok (.goto 18, 3) := by decide +kernel
theorem d_Frame_layAlignments_110 : decode prog_6_method_5_code 110 = .ok (.aload_n 0, 1) := by decide +kernel
theorem d_Frame_layAlignments_111 : decode prog_6_method_5_code 111 = .ok (.getfield 31, 3) := by decide +kernel
theorem d_Frame_layAlignments_114 : decode prog_6_method_5_code 114 = .ok (.bipush 7, 2) := by decide +kernel
theorem d_Frame_layAlignments_116 : decode prog_6_method_5_code 116 = .ok (.isub, 1) := by decide +kernel
theorem d_Frame_layAlignments_117 : decode prog_6_method_5_code 117 = .ok (.iload_n 3, 1) := by decide +kernel
theorem d_Frame_layAlignments_118 : decode prog_6_method_5_code 118 = .ok (.iload 5, 2) := by decide +kernel
theorem d_Frame_layAlignments_120 : decode prog_6_method_5_code 120 = .ok (.isub, 1) := by decide +kernel
theorem d_Frame_layAlignments_121 : decode prog_6_method_5_code 121 = .ok (.iload 4, 2) := by decide +kernel
theorem d_Frame_layAlignments_123 : decode prog_6_method_5_code 123 = .ok (.imul, 1) := by decide +kernel
theorem d_Frame_layAlignments_124 : decode prog_6_method_5_code 124 = .ok (.isub, 1) := by decide +kernel
theorem d_Frame_layAlignments_125 : decode prog_6_method_5_code 125 = .ok (.istore 8, 2) := by decide +kernel
theorem d_Frame_layAlignments_127 : decode prog_6_method_5_code 127 = .ok (.iload 6, 2) := by decide +kernel
theorem d_Frame_layAlignments_129 : decode prog_6_method_5_code 129 = .ok (.ifCond .ne 8, 3) := by decide +kernel
theorem d_Frame_layAlignments_132 : decode prog_6_method_5_code 132 = .ok (.bipush 6, 2) := by decide +kernel
theorem d_Frame_layAlignments_134 : decode prog_6_method_5_code 134 = .ok (.goto 18, 3) := by decide +kernel
theorem d_Frame_layAlignments_137 : decode prog_6_method_5_code 137 = .ok (.aload_n 0, 1) := by decide +kernel
theorem d_Frame_layAlignments_138 : decode prog_6_method_5_code 138 = .ok (.getfield 31, 3) := by decide +kernel
theorem d_Frame_layAlignments_141 : decode prog_6_method_5_code 141 = .ok (.bipush 7, 2) := by decide +kernel
theorem d_Frame_layAlignments_143 : decode prog_6_method_5_code 143 = .ok (.isub, 1) := by decide +kernel
theorem d_Frame_layAlignments_144 : decode prog_6_method_5_code 144 = .ok (.iload_n 3, 1) := by decide +kernel
theorem d_Frame_layAlignments_145 : decode prog_6_method_5_code 145 = .ok (.iload 6, 2) := by decide +kernel
theorem d_Frame_layAlignments_147 : decode prog_6_method_5_code 147 = .ok (.isub, 1) := by decide +kernel
theorem d_Frame_layAlignments_148 : decode prog_6_method_5_code 148 = .ok (.iload 4, 2) := by decide +kernel
theorem d_Frame_layAlignments_150 : decode prog_6_method_5_code 150 = .ok (.imul, 1) := by decide +kernel
theorem d_Frame_layAlignments_151 : decode prog_6_method_5_code 151 = .ok (.isub, 1) := by decide +kernel
theorem d_Frame_layAlignments_152 : decode prog_6_method_5_code 152 = .ok (.istore 9, 2) := by decide +kernel
theorem d_Frame_layAlignments_154 : decode prog_6_method_5_code 154 = .ok (.aload_n 0, 1) := by decide +kernel
theorem d_Frame_layAlignments_155 : decode prog_6_method_5_code 155 = .ok (.iload 8, 2) := by decide +kernel
theorem d_Frame_layAlignments_157 : decode prog_6_method_5_code 157 = .ok (.iload 9, 2) := by decide +kernel
theorem d_Frame_layAlignments_159 : decode prog_6_method_5_code 159 = .ok (.iconst 2, 1) := by decide +kernel
theorem d_Frame_layAlignments_160 : decode prog_6_method_5_code 160 = .ok (.iconst 5, 1) := by decide +kernel
theorem d_Frame_layAlignments_161 : decode prog_6_method_5_code 161 = .ok (.invokevirtual 42, 3) := by decide +kernel
theorem d_Frame_layAlignments_164 : decode prog_6_method_5_code 164 = .ok (.iinc 6 1, 3) := by decide +kernel
theorem d_Frame_layAlignments_167 : decode prog_6_method_5_code 167 = .ok (.goto (-112), 3) := by decide +kernel
theorem d_Frame_layAlignments_170 : decode prog_6_method_5_code 170 = .ok (.iinc 5 1, 3) := by decide +kernel
theorem d_Frame_layAlignments_173 : decode prog_6_method_5_code 173 = .ok (.goto (-127), 3) := by decide +kernel
theorem d_Frame_layAlignments_176 : decode prog_6_method_5_code 176 = .ok (.return_, 1) := by decide +kernel
theorem d_Frame_layVersion_0 : decode prog_6_method_6_code 0 = .ok (.iload_n 1, 1) := by decide +kernel
theorem d_Frame_layVersion_1 : decode prog_6_method_6_code 1 = .ok (.bipush 12, 2) := by decide +kernel
theorem d_Frame_layVersion_3 : decode prog_6_method_6_code 3 = .ok (.sipush 7973, 3) := by decide +kernel
theorem d_Frame_layVersion_6 : decode prog_6_method_6_code 6 = .ok (.invokestatic 71, 3) := by decide +kernel
theorem d_Frame_layVersion_9 : decode prog_6_method_6_code 9 = .ok (.istore_n 2, 1) := by decide +kernel
theorem d_Frame_layVersion_10 : decode prog_6_method_6_code 10 = .ok (.iconst 0, 1) := by decide +kernel
theorem d_Frame_layVersion_11 : decode prog_6_method_6_code 11 = .ok (.istore_n 3, 1) := by decide +kernel
theorem d_Frame_layVersion_12 : decode prog_6_method_6_code 12 = .ok (.iload_n 3, 1) := by decide +kernel
theorem d_Frame_layVersion_13 : decode prog_6_method_6_code 13 = .ok (.bipush 18, 2) := by decide +kernel
theorem d_Frame_layVersion_15 : decode prog_6_method_6_code 15 = .ok (.if_icmp .ge 65, 3) := by decide +kernel
theorem d_Frame_layVersion_18 : decode prog_6_method_6_code 18 = .ok (.iload_n 2, 1) := by decide +kernel
theorem d_Frame_layVersion_19 : decode prog_6_method_6_code 19 = .ok (.iload_n 3, 1) := by decide +kernel
theorem d_Frame_layVersion_20 : decode prog_6_method_6_code 20 = .ok (.ishr, 1) := by decide +kernel
theorem d_Frame_layVersion_21 : decode prog_6_method_6_code 21 = .ok (.iconst 1, 1) := by decide +kernel
theorem d_Frame_layVersion_22 : decode prog_6_method_6_code 22 = .ok (.iand, 1) := by decide +kernel
theorem d_Frame_layVersion_23 : decode prog_6_method_6_code 23 = .ok (.iconst 1, 1) := by decide +kernel
theorem d_Frame_layVersion_24 : decode prog_6_method_6_code 24 = .ok (.if_icmp .ne 7, 3) := by decide +kernel
theorem d_Frame_layVersion_27 : decode prog_6_method_6_code 27 = .ok (.iconst 1, 1) := by decide +kernel
theorem d_Frame_layVersion_28 : decode prog_6_method_6_code 28 = .ok (.goto 4, 3) := by decide +kernel
theorem d_Frame_layVersion_31 : decode prog_6_method_6_code 31 = .ok (.iconst 0, 1) := by decide +kernel
theorem d_Frame_layVersion_32 : decode prog_6_method_6_code 32 = .ok (.istore 4, 2) := by decide +kernel
theorem d_Frame_layVersion_34 : decode prog_6_method_6_code 34 = .ok (.aload_n 0, 1) := by decide +kernel
theorem d_Frame_layVersion_35 : decode prog_6_method_6_code 35 = .ok (.aload_n 0, 1) := by decide +kernel
theorem d_Frame_layVersion_36 : decode prog_6_method_6_code 36 = .ok (.getfield 31, 3) := by decide +kernel
theorem d_Frame_layVersion_39 : decode prog_6_method_6_code 39 = .ok (.bipush 11, 2) := by decide +kernel
theorem d_Frame_layVersion_41 : decode prog_6_method_6_code 41 = .ok (.isub, 1) := by decide +kernel
theorem d_Frame_layVersion_42 : decode prog_6_method_6_code 42 = .ok (.iload_n 3, 1) := by decide +kernel
theorem d_Frame_layVersion_43 : decode prog_6_method_6_code 43 = .ok (.iconst 3, 1) := by decide +kernel
theorem d_Frame_layVersion_44 : decode prog_6_method_6_code 44 = .ok (.irem, 1) := by decide +kernel
theorem d_Frame_layVersion_45 : decode prog_6_method_6_code 45 = .ok (.iadd, 1) := by decide +kernel
theorem d_Frame_layVersion_46 : decode prog_6_method_6_code 46 = .ok (.iload_n 3, 1) := by decide +kernel
theorem d_Frame_layVersion_47 : decode prog_6_method_6_code 47 = .ok (.iconst 3, 1) := by decide +kernel
theorem d_Frame_layVersion_48 : decode prog_6_method_6_code 48 = .ok (.idiv, 1) := by decide +kernel
theorem d_Frame_layVersion_49 : decode prog_6_method_6_code 49 = .ok (.iload 4, 2) := by decide +kernel
theorem d_Frame_layVersion_51 : decode prog_6_method_6_code 51 = .ok (.invokevirtual 38, 3) := by decide +kernel
theorem d_Frame_layVersion_54 : decode prog_6_method_6_code 54 = .ok (.aload_n 0, 1) := by decide +kernel
theorem d_Frame_layVersion_55 : decode prog_6_method_6_code 55 = .ok (.iload_n 3, 1) := by decide +kernel
theorem d_Frame_layVersion_56 : decode prog_6_method_6_code 56 = .ok (.iconst 3, 1) := by decide +kernel
theorem d_Frame_layVersion_57 : decode prog_6_method_6_code 57 = .ok (.idiv, 1) := by decide +kernel
theorem d_Frame_layVersion_58 : decode prog_6_method_6_code 58 = .ok (.aload_n 0, 1) := by decide +kernel
theorem d_Frame_layVersion_59 : decode prog_6_method_6_code 59 = .ok (.getfield 31, 3) := by decide +kernel
theorem d_Frame_layVersion_62 : decode prog_6_method_6_code 62 = .ok (.bipush 11, 2) := by decide +kernel
theorem d_Frame_layVersion_64 : decode prog_6_method_6_code 64 = .ok (.isub, 1) := by decide +kernel
theorem d_Frame_layVersion_65 : decode prog_6_method_6_code 65 = .ok (.iload_n 3, 1) := by decide +kernel
theorem d_Frame_layVersion_66 : decode prog_6_method_6_code 66 = .ok (.iconst 3, 1) := by decide +kernel
theorem d_Frame_layVersion_67 : decode prog_6_method_6_code 67 = .ok (.irem, 1) := by decide +kernel
theorem d_Frame_layVersion_68 : decode prog_6_method_6_code 68 = .ok (.iadd, 1) := by decide +kernel
theorem d_Frame_layVersion_69 : decode prog_6_method_6_code 69 = .ok (.iload 4, 2) := by decide +kernel
theorem d_Frame_layVersion_71 : decode prog_6_method_6_code 71 = .ok (.invokevirtual 38, 3) := by decide +kernel
theorem d_Frame_layVersion_74 : decode prog_6_method_6_code 74 = .ok (.iinc 3 1, 3) := by decide +kernel
theorem d_Frame_layVersion_77 : decode prog_6_method_6_code 77 = .ok (.goto (-65), 3) := by decide +kernel
theorem d_Frame_layVersion_80 : decode prog_6_method_6_code 80 = .ok (.return_, 1) := by decide +kernel
theorem d_Frame_chooseMask_0 : decode prog_6_method_16_code 0 = .ok (.aload_n 0, 1) := by decide +kernel
theorem d_Frame_chooseMask_1 : decode prog_6_method_16_code 1 = .ok (.getfield 21, 3) := by decide +kernel
theorem d_Frame_chooseMask_4 : decode prog_6_method_16_code 4 = .ok (.lconst 0, 1) := by decide +kernel
theorem d_Frame_chooseMask_5 : decode prog_6_method_16_code 5 = .ok (.invokestatic 116, 3) := by decide +kernel
theorem d_Frame_chooseMask_8 : decode prog_6_method_16_code 8 = .ok (.iconst 0, 1) := by decide +kernel
theorem d_Frame_chooseMask_9 : decode prog_6_method_16_code 9 = .ok (.istore_n 2, 1) := by decide +kernel
theorem d_Frame_chooseMask_10 : decode prog_6_method_16_code 10 = .ok (.iload_n 2, 1) := by decide +kernel
theorem d_Frame_chooseMask_11 : decode prog_6_method_16_code 11 = .ok (.bipush 12, 2) := by decide +kernel
theorem d_Frame_chooseMask_13 : decode prog_6_method_16_code 13 = .ok (.if_icmp .ge 63, 3) := by decide +kernel
theorem d_Frame_chooseMask_16 : decode prog_6_method_16_code 16 = .ok (.iconst 0, 1) := by decide +kernel
theorem d_Frame_chooseMask_17 : decode prog_6_method_16_code 17 = .ok (.istore_n 3, 1) := by decide +kernel
theorem d_Frame_chooseMask_18 : decode prog_6_method_16_code 18 = .ok (.iload_n 3, 1) := by decide +kernel
theorem d_Frame_chooseMask_19 : decode prog_6_method_16_code 19 = .ok (.aload_n 0, 1) := by decide +kernel
theorem d_Frame_chooseMask_20 : decode prog_6_method_16_code 20 = .ok (.getfield 31, 3) := by decide +kernel
theorem d_Frame_chooseMask_23 : decode prog_6_method_16_code 23 = .ok (.if_icmp .ge 47, 3) := by decide +kernel
theorem d_Frame_chooseMask_26 : decode prog_6_method_16_code 26 = .ok (.iload_n 3, 1) := by decide +kernel
theorem d_Frame_chooseMask_27 : decode prog_6_method_16_code 27 = .ok (.sipush 177, 3) := by decide +kernel
theorem d_Frame_chooseMask_30 : decode prog_6_method_16_code 30 = .ok (.if_icmp .ge 40, 3) := by decide +kernel
theorem d_Frame_chooseMask_33 : decode prog_6_method_16_code 33 = .ok (.iload_n 1, 1) := by decide +kernel
theorem d_Frame_chooseMask_34 : decode prog_6_method_16_code 34 = .ok (.iload_n 3, 1) := by decide +kernel
theorem d_Frame_chooseMask_35 : decode prog_6_method_16_code 35 = .ok (.iload_n 2, 1) := by decide +kernel
theorem d_Frame_chooseMask_36 : decode prog_6_method_16_code 36 = .ok (.invokestatic 122, 3) := by decide +kernel
theorem d_Frame_chooseMask_39 : decode prog_6_method_16_code 39 = .ok (.ifCond .eq 25, 3) := by decide +kernel
theorem d_Frame_chooseMask_42 : decode prog_6_method_16_code 42 = .ok (.aload_n 0, 1) := by decide +kernel
theorem d_Frame_chooseMask_43 : decode prog_6_method_16_code 43 = .ok (.getfield 21, 3) := by decide +kernel
theorem d_Frame_chooseMask_46 : decode prog_6_method_16_code 46 = .ok (.iconst 3, 1) := by decide +kernel
theorem d_Frame_chooseMask_47 : decode prog_6_method_16_code 47 = .ok (.iload_n 2, 1) := by decide +kernel
theorem d_Frame_chooseMask_48 : decode prog_6_method_16_code 48 = .ok (.imul, 1) := by decide +kernel
theorem d_Frame_chooseMask_49 : decode prog_6_method_16_code 49 = .ok (.iload_n 3, 1) := by decide +kernel
theorem d_Frame_chooseMask_50 : decode prog_6_method_16_code 50 = .ok (.bipush 6, 2) := by decide +kernel
theorem d_Frame_chooseMask_52 : decode prog_6_method_16_code 52 = .ok (.ishr, 1) := by decide +kernel
theorem d_Frame_chooseMask_53 : decode prog_6_method_16_code 53 = .ok (.iadd, 1) := by decide +kernel
theorem d_Frame_chooseMask_54 : decode prog_6_method_16_code 54 = .ok (.dup2, 1) := by decide +kernel
theorem d_Frame_chooseMask_55 : decode prog_6_method_16_code 55 = .ok (.laload, 1) := by decide +kernel
theorem d_Frame_chooseMask_56 : decode prog_6_method_16_code 56 = .ok (.lconst 1, 1) := by decide +kernel
theorem d_Frame_chooseMask_57 : decode prog_6_method_16_code 57 = .ok (.iload_n 3, 1) := by decide +kernel
theorem d_Frame_chooseMask_58 : decode prog_6_method_16_code 58 = .ok (.bipush 63, 2) := by decide +kernel
theorem d_Frame_chooseMask_60 : decode prog_6_method_16_code 60 = .ok (.iand, 1) := by decide +kernel
theorem d_Frame_chooseMask_61 : decode prog_6_method_16_code 61 = .ok (.lshl, 1) := by decide +kernel
theorem d_Frame_chooseMask_62 : decode prog_6_method_16_code 62 = .ok (.lor, 1) := by decide +kernel
theorem d_Frame_chooseMask_63 : decode prog_6_method_16_code 63 = .ok (.lastore, 1) := by decide +kernel
theorem d_Frame_chooseMask_64 : decode prog_6_method_16_code 64 = .ok (.iinc 3 1, 3) := by decide +kernel
theorem d_Frame_chooseMask_67 : decode prog_6_method_16_code 67 = .ok (.goto (-49), 3) := by decide +kernel
theorem d_Frame_chooseMask_70 : decode prog_6_method_16_code 70 = .ok (.iinc 2 1, 3) := by decide +kernel
theorem d_Frame_chooseMask_73 : decode prog_6_method_16_code 73 = .ok (.goto (-63), 3) := by decide +kernel
theorem d_Frame_chooseMask_76 : decode prog_6_method_16_code 76 = .ok (.return_, 1) := by decide +kernel
theorem d_Frame_isTurned_0 : decode prog_6_method_17_code 0 = .ok (.iload_n 0, 1) := by decide +kernel
theorem d_Frame_isTurned_1 : decode prog_6_method_17_code 1 = .ok (.tableswitch 155 0 6 #[43, 57, 69, 81, 95, 113, 133], 43) := by decide +kernel
theorem d_Frame_isTurned_44 : decode prog_6_method_17_code 44 = .ok (.iload_n 1, 1) := by decide +kernel
theorem d_Frame_isTurned_45 : decode prog_6_method_17_code 45 = .ok (.iload_n 2, 1) := by decide +kernel
theorem d_Frame_isTurned_46 : decode prog_6_method_17_code 46 = .ok (.iadd, 1) := by decide +kernel
theorem d_Frame_isTurned_47 : decode prog_6_method_17_code 47 = .ok (.iconst 2, 1) := by decide +kernel
theorem d_Frame_isTurned_48 : decode prog_6_method_17_code 48 = .ok (.irem, 1) := by decide +kernel
theorem d_Frame_isTurned_49 : decode prog_6_method_17_code 49 = .ok (.ifCond .ne 7, 3) := by decide +kernel
theorem d_Frame_isTurned_52 : decode prog_6_method_17_code 52 = .ok (.iconst 1, 1) := by decide +kernel
theorem d_Frame_isTurned_53 : decode prog_6_method_17_code 53 = .ok (.goto 4, 3) := by decide +kernel
theorem d_Frame_isTurned_56 : decode prog_6_method_17_code 56 = .ok (.iconst 0, 1) := by decide +kernel
theorem d_Frame_isTurned_57 : decode prog_6_method_17_code 57 = .ok (.ireturn, 1) := by decide +kernel
theorem d_Frame_isTurned_58 : decode prog_6_method_17_code 58 = .ok (.iload_n 2, 1) := by decide +kernel
theorem d_Frame_isTurned_59 : decode prog_6_method_17_code 59 = .ok (.iconst 2, 1) := by decide +kernel
theorem d_Frame_isTurned_60 : decode prog_6_method_17_code 60 = .ok (.irem, 1) := by decide +kernel
theorem d_Frame_isTurned_61 : decode prog_6_method_17_code 61 = .ok (.ifCond .ne 7, 3) := by decide +kernel
theorem d_Frame_isTurned_64 : decode prog_6_method_17_code 64 = .ok (.iconst 1, 1) := by decide +kernel
theorem d_Frame_isTurned_65 : decode prog_6_method_17_code 65 = .ok (.goto 4, 3) := by decide +kernel
theorem d_Frame_isTurned_68 : decode prog_6_method_17_code 68 = .ok (.iconst 0, 1) := by decide +kernel
theorem d_Frame_isTurned_69 : decode prog_6_method_17_code 69 = .ok (.ireturn, 1) := by decide +kernel
theorem d_Frame_isTurned_70 : decode prog_6_method_17_code 70 = .ok (.iload_n 1, 1) := by decide +kernel
theorem d_Frame_isTurned_71 : decode prog_6_method_17_code 71 = .ok (.iconst 3, 1) := by decide +kernel
theorem d_Frame_isTurned_72 : decode prog_6_method_17_code 72 = .ok (.irem, 1) := by decide +kernel
theorem d_Frame_isTurned_73 : decode prog_6_method_17_code 73 = .ok (.ifCond .ne 7, 3) := by decide +kernel
theorem d_Frame_isTurned_76 : decode prog_6_method_17_code 76 = .ok (.iconst 1, 1) := by decide +kernel
theorem d_Frame_isTurned_77 : decode prog_6_method_17_code 77 = .ok (.goto 4, 3) := by decide +kernel
theorem d_Frame_isTurned_80 : decode prog_6_method_17_code 80 = .ok (.iconst 0, 1) := by decide +kernel
theorem d_Frame_isTurned_81 : decode prog_6_method_17_code 81 = .ok (.ireturn, 1) := by decide +kernel
theorem d_Frame_isTurned_82 : decode prog_6_method_17_code 82 = .ok (.iload_n 1, 1) := by decide +kernel
theorem d_Frame_isTurned_83 : decode prog_6_method_17_code 83 = .ok (.iload_n 2, 1) := by decide +kernel
theorem d_Frame_isTurned_84 : decode prog_6_method_17_code 84 = .ok (.iadd, 1) := by decide +kernel
theorem d_Frame_isTurned_85 : decode prog_6_method_17_code 85 = .ok (.iconst 3, 1) := by decide +kernel
theorem d_Frame_isTurned_86 : decode prog_6_method_17_code 86 = .ok (.irem, 1) := by decide +kernel
theorem d_Frame_isTurned_87 : decode prog_6_method_17_code 87 = .ok (.ifCond .ne 7, 3) := by decide +kernel
theorem d_Frame_isTurned_90 : decode prog_6_method_17_code 90 = .ok (.iconst 1, 1) := by decide +kernel
theorem d_Frame_isTurned_91 : decode prog_6_method_17_code 91 = .ok (.goto 4, 3) := by decide +kernel
theorem d_Frame_isTurned_94 : decode prog_6_method_17_code 94 = .ok (.iconst 0, 1) := by decide +kernel
theorem d_Frame_isTurned_95 : decode prog_6_method_17_code 95 = .ok (.ireturn, 1) := by decide +kernel
theorem d_Frame_isTurned_96 : decode prog_6_method_17_code 96 = .ok (.iload_n 1, 1) := by decide +kernel
theorem d_Frame_isTurned_97 : decode prog_6_method_17_code 97 = .ok (.iconst 3, 1) := by decide +kernel
theorem d_Frame_isTurned_98 : decode prog_6_method_17_code 98 = .ok (.idiv, 1) := by decide +kernel
theorem d_Frame_isTurned_99 : decode prog_6_method_17_code 99 = .ok (.iload_n 2, 1) := by decide +kernel
theorem d_Frame_isTurned_100 : decode prog_6_method_17_code 100 = .ok (.iconst 2, 1) := by decide +kernel
theorem d_Frame_isTurned_101 : decode prog_6_method_17_code 101 = .ok (.idiv, 1) := by decide +kernel
theorem d_Frame_isTurned_102 : decode prog_6_method_17_code 102 = .ok (.iadd, 1) := by decide +kernel
theorem d_Frame_isTurned_103 : decode prog_6_method_17_code 103 = .ok (.iconst 2, 1) := by decide +kernel
theorem d_Frame_isTurned_104 : decode prog_6_method_17_code 104 = .ok (.irem, 1) := by decide +kernel
theorem d_Frame_isTurned_105 : decode prog_6_method_17_code 105 = .ok (.ifCond .ne 7, 3) := by decide +kernel
theorem d_Frame_isTurned_108 : decode prog_6_method_17_code 108 = .ok (.iconst 1, 1) := by decide +kernel
theorem d_Frame_isTurned_109 : decode prog_6_method_17_code 109 = .ok (.goto 4, 3) := by decide +kernel
theorem d_Frame_isTurned_112 : decode prog_6_method_17_code 112 = .ok (.iconst 0, 1) := by decide +kernel
theorem d_Frame_isTurned_113 : decode prog_6_method_17_code 113 = .ok (.ireturn, 1) := by decide +kernel
theorem d_Frame_isTurned_114 : decode prog_6_method_17_code 114 = .ok (.iload_n 1, 1) := by decide +kernel
theorem d_Frame_isTurned_115 : decode prog_6_method_17_code 115 = .ok (.iload_n 2, 1) := by decide +kernel
theorem d_Frame_isTurned_116 : decode prog_6_method_17_code 116 = .ok (.imul, 1) := by decide +kernel
theorem d_Frame_isTurned_117 : decode prog_6_method_17_code 117 = .ok (.iconst 2, 1) := by decide +kernel
theorem d_Frame_isTurned_118 : decode prog_6_method_17_code 118 = .ok (.irem, 1) := by decide +kernel
theorem d_Frame_isTurned_119 : decode prog_6_method_17_code 119 = .ok (.iload_n 1, 1) := by decide +kernel
theorem d_Frame_isTurned_120 : decode prog_6_method_17_code 120 = .ok (.iload_n 2, 1) := by decide +kernel
theorem d_Frame_isTurned_121 : decode prog_6_method_17_code 121 = .ok (.imul, 1) := by decide +kernel
theorem d_Frame_isTurned_122 : decode prog_6_method_17_code 122 = .ok (.iconst 3, 1) := by decide +kernel
theorem d_Frame_isTurned_123 : decode prog_6_method_17_code 123 = .ok (.irem, 1) := by decide +kernel
theorem d_Frame_isTurned_124 : decode prog_6_method_17_code 124 = .ok (.iadd, 1) := by decide +kernel
theorem d_Frame_isTurned_125 : decode prog_6_method_17_code 125 = .ok (.ifCond .ne 7, 3) := by decide +kernel
theorem d_Frame_isTurned_128 : decode prog_6_method_17_code 128 = .ok (.iconst 1, 1) := by decide +kernel
theorem d_Frame_isTurned_129 : decode prog_6_method_17_code 129 = .ok (.goto 4, 3) := by decide +kernel
theorem d_Frame_isTurned_132 : decode prog_6_method_17_code 132 = .ok (.iconst 0, 1) := by decide +kernel
theorem d_Frame_isTurned_133 : decode prog_6_method_17_code 133 = .ok (.ireturn, 1) := by decide +kernel
theorem d_Frame_isTurned_134 : decode prog_6_method_17_code 134 = .ok (.iload_n 1, 1) := by decide +kernel
theorem d_Frame_isTurned_135 : decode prog_6_method_17_code 135 = .ok (.iload_n 2, 1) := by decide +kernel
theorem d_Frame_isTurned_136 : decode prog_6_method_17_code 136 = .ok (.imul, 1) := by decide +kernel
theorem d_Frame_isTurned_137 : decode prog_6_method_17_code 137 = .ok (.iconst 2, 1) := by decide +kernel
theorem d_Frame_isTurned_138 : decode prog_6_method_17_code 138 = .ok (.irem, 1) := by decide +kernel
theorem d_Frame_isTurned_139 : decode prog_6_method_17_code 139 = .ok (.iload_n 1, 1) := by decide +kernel
theorem d_Frame_isTurned_140 : decode prog_6_method_17_code 140 = .ok (.iload_n 2, 1) := by decide +kernel
theorem d_Frame_isTurned_141 : decode prog_6_method_17_code 141 = .ok (.imul, 1) := by decide +kernel
theorem d_Frame_isTurned_142 : decode prog_6_method_17_code 142 = .ok (.iconst 3, 1) := by decide +kernel
theorem d_Frame_isTurned_143 : decode prog_6_method_17_code 143 = .ok (.irem, 1) := by decide +kernel
theorem d_Frame_isTurned_144 : decode prog_6_method_17_code 144 = .ok (.iadd, 1) := by decide +kernel
theorem d_Frame_isTurned_145 : decode prog_6_method_17_code 145 = .ok (.iconst 2, 1) := by decide +kernel
theorem d_Frame_isTurned_146 : decode prog_6_method_17_code 146 = .ok (.irem, 1) := by decide +kernel
theorem d_Frame_isTurned_147 : decode prog_6_method_17_code 147 = .ok (.ifCond .ne 7, 3) := by decide +kernel
theorem d_Frame_isTurned_150 : decode prog_6_method_17_code 150 = .ok (.iconst 1, 1) := by decide +kernel
theorem d_Frame_isTurned_151 : decode prog_6_method_17_code 151 = .ok (.goto 4, 3) := by decide +kernel
theorem d_Frame_isTurned_154 : decode prog_6_method_17_code 154 = .ok (.iconst 0, 1) := by decide +kernel
theorem d_Frame_isTurned_155 : decode prog_6_method_17_code 155 = .ok (.ireturn, 1) := by decide +kernel
theorem d_Frame_isTurned_156 : decode prog_6_method_17_code 156 = .ok (.iload_n 1, 1) := by decide +kernel
theorem d_Frame_isTurned_157 : decode prog_6_method_17_code 157 = .ok (.iload_n 2, 1) := by decide +kernel
theorem d_Frame_isTurned_158 : decode prog_6_method_17_code 158 = .ok (.iadd, 1) := by decide +kernel
theorem d_Frame_isTurned_159 : decode prog_6_method_17_code 159 = .ok (.iconst 2, 1) := by decide +kernel
theorem d_Frame_isTurned_160 : decode prog_6_method_17_code 160 = .ok (.irem, 1) := by decide +kernel
theorem d_Frame_isTurned_161 : decode prog_6_method_17_code 161 = .ok (.iload_n 1, 1) := by decide +kernel
theorem d_Frame_isTurned_162 : decode prog_6_method_17_code 162 = .ok (.iload_n 2, 1) := by decide +kernel
theorem d_Frame_isTurned_163 : decode prog_6_method_17_code 163 = .ok (.imul, 1) := by decide +kernel
theorem d_Frame_isTurned_164 : decode prog_6_method_17_code 164 = .ok (.iconst 3, 1) := by decide +kernel
theorem d_Frame_isTurned_165 : decode prog_6_method_17_code 165 = .ok (.irem, 1) := by decide +kernel
theorem d_Frame_isTurned_166 : decode prog_6_method_17_code 166 = .ok (.iadd, 1) := by decide +kernel
theorem d_Frame_isTurned_167 : decode prog_6_method_17_code 167 = .ok (.iconst 2, 1) := by decide +kernel
theorem d_Frame_isTurned_168 : decode prog_6_method_17_code 168 = .ok (.irem, 1) := by decide +kernel
theorem d_Frame_isTurned_169 : decode prog_6_method_17_code 169 = .ok (.ifCond .ne 7, 3) := by decide +kernel
theorem d_Frame_isTurned_172 : decode prog_6_method_17_code 172 = .ok (.iconst 1, 1) := by decide +kernel
theorem d_Frame_isTurned_173 : decode prog_6_method_17_code 173 = .ok (.goto 4, 3) := by decide +kernel
theorem d_Frame_isTurned_176 : decode prog_6_method_17_code 176 = .ok (.iconst 0, 1) := by decide +kernel
theorem d_Frame_isTurned_177 : decode prog_6_method_17_code 177 = .ok (.ireturn, 1) := by decide +kernel
theorem d_Frame_turnMask_0 : decode prog_6_method_18_code 0 = .ok (.iconst 0, 1) := by decide +kernel
theorem d_Frame_turnMask_1 : decode prog_6_method_18_code 1 = .ok (.istore_n 2, 1) := by decide +kernel
theorem d_Frame_turnMask_2 : decode prog_6_method_18_code 2 = .ok (.iload_n 2, 1) := by decide +kernel
theorem d_Frame_turnMask_3 : decode prog_6_method_18_code 3 = .ok (.aload_n 0, 1) := by decide +kernel
theorem d_Frame_turnMask_4 : decode prog_6_method_18_code 4 = .ok (.getfield 31, 3) := by decide +kernel
theorem d_Frame_turnMask_7 : decode prog_6_method_18_code 7 = .ok (.if_icmp .ge 63, 3) := by decide +kernel
theorem d_Frame_turnMask_10 : decode prog_6_method_18_code 10 = .ok (.iconst 0, 1) := by decide +kernel
theorem d_Frame_turnMask_11 : decode prog_6_method_18_code 11 = .ok (.istore_n 3, 1) := by decide +kernel
theorem d_Frame_turnMask_12 : decode prog_6_method_18_code 12 = .ok (.iload_n 3, 1) := by decide +kernel
theorem d_Frame_turnMask_13 : decode prog_6_method_18_code 13 = .ok (.iconst 3, 1) := by decide +kernel
theorem d_Frame_turnMask_14 : decode prog_6_method_18_code 14 = .ok (.if_icmp .ge 50, 3) := by decide +kernel
theorem d_Frame_turnMask_17 : decode prog_6_method_18_code 17 = .ok (.aload_n 0, 1) := by decide +kernel
theorem d_Frame_turnMask_18 : decode prog_6_method_18_code 18 = .ok (.getfield 21, 3) := by decide +kernel
theorem d_Frame_turnMask_21 : decode prog_6_method_18_code 21 = .ok (.iconst 3, 1) := by decide +kernel
theorem d_Frame_turnMask_22 : decode prog_6_method_18_code 22 = .ok (.iload_n 2, 1) := by decide +kernel
theorem d_Frame_turnMask_23 : decode prog_6_method_18_code 23 = .ok (.bipush 12, 2) := by decide +kernel
theorem d_Frame_turnMask_25 : decode prog_6_method_18_code 25 = .ok (.irem, 1) := by decide +kernel
theorem d_Frame_turnMask_26 : decode prog_6_method_18_code 26 = .ok (.imul, 1) := by decide +kernel
theorem d_Frame_turnMask_27 : decode prog_6_method_18_code 27 = .ok (.iload_n 3, 1) := by decide +kernel
theorem d_Frame_turnMask_28 : decode prog_6_method_18_code 28 = .ok (.iadd, 1) := by decide +kernel
theorem d_Frame_turnMask_29 : decode prog_6_method_18_code 29 = .ok (.laload, 1) := by decide +kernel
theorem d_Frame_turnMask_30 : decode prog_6_method_18_code 30 = .ok (.lstore 4, 2) := by decide +kernel
theorem d_Frame_turnMask_32 : decode prog_6_method_18_code 32 = .ok (.aload_n 1, 1) := by decide +kernel
theorem d_Frame_turnMask_33 : decode prog_6_method_18_code 33 = .ok (.iload_n 3, 1) := by decide +kernel
theorem d_Frame_turnMask_34 : decode prog_6_method_18_code 34 = .ok (.iload_n 2, 1) := by decide +kernel
theorem d_Frame_turnMask_35 : decode prog_6_method_18_code 35 = .ok (.lload 4, 2) := by decide +kernel
theorem d_Frame_turnMask_37 : decode prog_6_method_18_code 37 = .ok (.aload_n 0, 1) := by decide +kernel
theorem d_Frame_turnMask_38 : decode prog_6_method_18_code 38 = .ok (.getfield 12, 3) := by decide +kernel
theorem d_Frame_turnMask_41 : decode prog_6_method_18_code 41 = .ok (.bipush 64, 2) := by decide +kernel
theorem d_Frame_turnMask_43 : decode prog_6_method_18_code 43 = .ok (.iload_n 3, 1) := by decide +kernel
theorem d_Frame_turnMask_44 : decode prog_6_method_18_code 44 = .ok (.imul, 1) := by decide +kernel
theorem d_Frame_turnMask_45 : decode prog_6_method_18_code 45 = .ok (.iload_n 2, 1) := by decide +kernel
theorem d_Frame_turnMask_46 : decode prog_6_method_18_code 46 = .ok (.invokevirtual 126, 3) := by decide +kernel
theorem d_Frame_turnMask_49 : decode prog_6_method_18_code 49 = .ok (.ldc2_w 130, 3) := by decide +kernel
theorem d_Frame_turnMask_52 : decode prog_6_method_18_code 52 = .ok (.lxor, 1) := by decide +kernel
theorem d_Frame_turnMask_53 : decode prog_6_method_18_code 53 = .ok (.land, 1) := by decide +kernel
theorem d_Frame_turnMask_54 : decode prog_6_method_18_code 54 = .ok (.invokevirtual 132, 3) := by decide +kernel
theorem d_Frame_turnMask_57 : decode prog_6_method_18_code 57 = .ok (.pop, 1) := by decide +kernel
theorem d_Frame_turnMask_58 : decode prog_6_method_18_code 58 = .ok (.iinc 3 1, 3) := by decide +kernel
theorem d_Frame_turnMask_61 : decode prog_6_method_18_code 61 = .ok (.goto (-49), 3) := by decide +kernel
theorem d_Frame_turnMask_64 : decode prog_6_method_18_code 64 = .ok (.iinc 2 1, 3) := by decide +kernel
theorem d_Frame_turnMask_67 : decode prog_6_method_18_code 67 = .ok (.goto (-65), 3) := by decide +kernel
theorem d_Frame_turnMask_70 : decode prog_6_method_18_code 70 = .ok (.return_, 1) := by decide +kernel
theorem d_Frame_takeCodewords_0 : decode prog_6_method_14_code 0 = .ok (.aload_n 0, 1) := by decide +kernel
theorem d_Frame_takeCodewords_1 : decode prog_6_method_14_code 1 = .ok (.iconst 0, 1) := by decide +kernel
theorem d_Frame_takeCodewords_2 : decode prog_6_method_14_code 2 = .ok (.putfield 89, 3) := by decide +kernel
theorem d_Frame_takeCodewords_5 : decode prog_6_method_14_code 5 = .ok (.iconst 0, 1) := by decide +kernel
theorem d_Frame_takeCodewords_6 : decode prog_6_method_14_code 6 = .ok (.istore_n 3, 1) := by decide +kernel
theorem d_Frame_takeCodewords_7 : decode prog_6_method_14_code 7 = .ok (.iload_n 3, 1) := by decide +kernel
theorem d_Frame_takeCodewords_8 : decode prog_6_method_14_code 8 = .ok (.aload_n 2, 1) := by decide +kernel
theorem d_Frame_takeCodewords_9 : decode prog_6_method_14_code 9 = .ok (.invokevirtual 92, 3) := by decide +kernel
theorem d_Frame_takeCodewords_12 : decode prog_6_method_14_code 12 = .ok (.if_icmp .ge 73, 3) := by decide +kernel
theorem d_Frame_takeCodewords_15 : decode prog_6_method_14_code 15 = .ok (.iconst 0, 1) := by decide +kernel
theorem d_Frame_takeCodewords_16 : decode prog_6_method_14_code 16 = .ok (.istore 4, 2) := by decide +kernel
theorem d_Frame_takeCodewords_18 : decode prog_6_method_14_code 18 = .ok (.bipush 7, 2) := by decide +kernel
theorem d_Frame_takeCodewords_20 : decode prog_6_method_14_code 20 = .ok (.istore 5, 2) := by decide +kernel
theorem d_Frame_takeCodewords_22 : decode prog_6_method_14_code 22 = .ok (.iload 5, 2) := by decide +kernel
theorem d_Frame_takeCodewords_24 : decode prog_6_method_14_code 24 = .ok (.ifCond .lt 44, 3) := by decide +kernel
theorem d_Frame_takeCodewords_27 : decode prog_6_method_14_code 27 = .ok (.aload_n 0, 1) := by decide +kernel
theorem d_Frame_takeCodewords_28 : decode prog_6_method_14_code 28 = .ok (.invokevirtual 103, 3) := by decide +kernel
theorem d_Frame_takeCodewords_31 : decode prog_6_method_14_code 31 = .ok (.ifCond .eq 37, 3) := by decide +kernel
theorem d_Frame_takeCodewords_34 : decode prog_6_method_14_code 34 = .ok (.iload 4, 2) := by decide +kernel
theorem d_Frame_takeCodewords_36 : decode prog_6_method_14_code 36 = .ok (.aload_n 1, 1) := by decide +kernel
theorem d_Frame_takeCodewords_37 : decode prog_6_method_14_code 37 = .ok (.aload_n 0, 1) := by decide +kernel
theorem d_Frame_takeCodewords_38 : decode prog_6_method_14_code 38 = .ok (.getfield 107, 3) := by decide +kernel
theorem d_Frame_takeCodewords_41 : decode prog_6_method_14_code 41 = .ok (.aload_n 0, 1) := by decide +kernel
theorem d_Frame_takeCodewords_42 : decode prog_6_method_14_code 42 = .ok (.getfield 110, 3) := by decide +kernel
theorem d_Frame_takeCodewords_45 : decode prog_6_method_14_code 45 = .ok (.invokevirtual 80, 3) := by decide +kernel
theorem d_Frame_takeCodewords_48 : decode prog_6_method_14_code 48 = .ok (.ifCond .eq 10, 3) := by decide +kernel
theorem d_Frame_takeCodewords_51 : decode prog_6_method_14_code 51 = .ok (.iconst 1, 1) := by decide +kernel
theorem d_Frame_takeCodewords_52 : decode prog_6_method_14_code 52 = .ok (.iload 5, 2) := by decide +kernel
theorem d_Frame_takeCodewords_54 : decode prog_6_method_14_code 54 = .ok (.ishl, 1) := by decide +kernel
theorem d_Frame_takeCodewords_55 : decode prog_6_method_14_code 55 = .ok (.goto 4, 3) := by decide +kernel
theorem d_Frame_takeCodewords_58 : decode prog_6_method_14_code 58 = .ok (.iconst 0, 1) := by decide +kernel
theorem d_Frame_takeCodewords_59 : decode prog_6_method_14_code 59 = .ok (.ior, 1) := by decide +kernel
theorem d_Frame_takeCodewords_60 : decode prog_6_method_14_code 60 = .ok (.istore 4, 2) := by decide +kernel
theorem d_Frame_takeCodewords_62 : decode prog_6_method_14_code 62 = .ok (.iinc 5 (-1), 3) := by decide +kernel
theorem d_Frame_takeCodewords_65 : decode prog_6_method_14_code 65 = .ok (.goto (-43), 3) := by decide +kernel
theorem d_Frame_takeCodewords_68 : decode prog_6_method_14_code 68 = .ok (.aload_n 2, 1) := by decide +kernel
theorem d_Frame_takeCodewords_69 : decode prog_6_method_14_code 69 = .ok (.aload_n 2, 1) := by decide +kernel
theorem d_Frame_takeCodewords_70 : decode prog_6_method_14_code 70 = .ok (.iload_n 3, 1) := by decide +kernel
theorem d_Frame_takeCodewords_71 : decode prog_6_method_14_code 71 = .ok (.invokevirtual 97, 3) := by decide +kernel
theorem d_Frame_takeCodewords_74 : decode prog_6_method_14_code 74 = .ok (.iload 4, 2) := by decide +kernel
theorem d_Frame_takeCodewords_76 : decode prog_6_method_14_code 76 = .ok (.invokevirtual 113, 3) := by decide +kernel
theorem d_Frame_takeCodewords_79 : decode prog_6_method_14_code 79 = .ok (.iinc 3 1, 3) := by decide +kernel
theorem d_Frame_takeCodewords_82 : decode prog_6_method_14_code 82 = .ok (.goto (-75), 3) := by decide +kernel
theorem d_Frame_takeCodewords_85 : decode prog_6_method_14_code 85 = .ok (.return_, 1) := by decide +kernel
theorem d_Frame_step_0 : decode prog_6_method_15_code 0 = .ok (.iconst 1, 1) := by decide +kernel
theorem d_Frame_step_1 : decode prog_6_method_15_code 1 = .ok (.iconst 2, 1) := by decide +kernel
theorem d_Frame_step_2 : decode prog_6_method_15_code 2 = .ok (.aload_n 0, 1) := by decide +kernel
theorem d_Frame_step_3 : decode prog_6_method_15_code 3 = .ok (.getfield 31, 3) := by decide +kernel
theorem d_Frame_step_6 : decode prog_6_method_15_code 6 = .ok (.imul, 1) := by decide +kernel
theorem d_Frame_step_7 : decode prog_6_method_15_code 7 = .ok (.invokestatic 67, 3) := by decide +kernel
theorem d_Frame_step_10 : decode prog_6_method_15_code 10 = .ok (.istore_n 1, 1) := by decide +kernel
theorem d_Frame_step_11 : decode prog_6_method_15_code 11 = .ok (.aload_n 0, 1) := by decide +kernel
theorem d_Frame_step_12 : decode prog_6_method_15_code 12 = .ok (.getfield 31, 3) := by decide +kernel
theorem d_Frame_step_15 : decode prog_6_method_15_code 15 = .ok (.aload_n 0, 1) := by decide +kernel
theorem d_Frame_step_16 : decode prog_6_method_15_code 16 = .ok (.getfield 31, 3) := by decide +kernel
theorem d_Frame_step_19 : decode prog_6_method_15_code 19 = .ok (.iconst 1, 1) := by decide +kernel
theorem d_Frame_step_20 : decode prog_6_method_15_code 20 = .ok (.isub, 1) := by decide +kernel
theorem d_Frame_step_21 : decode prog_6_method_15_code 21 = .ok (.imul, 1) := by decide +kernel
theorem d_Frame_step_22 : decode prog_6_method_15_code 22 = .ok (.istore_n 2, 1) := by decide +kernel
theorem d_Frame_step_23 : decode prog_6_method_15_code 23 = .ok (.aload_n 0, 1) := by decide +kernel
theorem d_Frame_step_24 : decode prog_6_method_15_code 24 = .ok (.getfield 89, 3) := by decide +kernel
theorem d_Frame_step_27 : decode prog_6_method_15_code 27 = .ok (.iload_n 2, 1) := by decide +kernel
theorem d_Frame_step_28 : decode prog_6_method_15_code 28 = .ok (.if_icmp .ge 116, 3) := by decide +kernel
theorem d_Frame_step_31 : decode prog_6_method_15_code 31 = .ok (.aload_n 0, 1) := by decide +kernel
theorem d_Frame_step_32 : decode prog_6_method_15_code 32 = .ok (.getfield 89, 3) := by decide +kernel
theorem d_Frame_step_35 : decode prog_6_method_15_code 35 = .ok (.iload_n 1, 1) := by decide +kernel
theorem d_Frame_step_36 : decode prog_6_method_15_code 36 = .ok (.idiv, 1) := by decide +kernel
theorem d_Frame_step_37 : decode prog_6_method_15_code 37 = .ok (.istore_n 3, 1) := by decide +kernel
theorem d_Frame_step_38 : decode prog_6_method_15_code 38 = .ok (.aload_n 0, 1) := by decide +kernel
theorem d_Frame_step_39 : decode prog_6_method_15_code 39 = .ok (.getfield 89, 3) := by decide +kernel
theorem d_Frame_step_42 : decode prog_6_method_15_code 42 = .ok (.iload_n 1, 1) := by decide +kernel
theorem d_Frame_step_43 : decode prog_6_method_15_code 43 = .ok (.irem, 1) := by decide +kernel
theorem d_Frame_step_44 : decode prog_6_method_15_code 44 = .ok (.istore 4, 2) := by decide +kernel
theorem d_Frame_step_46 : decode prog_6_method_15_code 46 = .ok (.aload_n 0, 1) := by decide +kernel
theorem d_Frame_step_47 : decode prog_6_method_15_code 47 = .ok (.dup, 1) := by decide +kernel
theorem d_Frame_step_48 : decode prog_6_method_15_code 48 = .ok (.getfield 89, 3) := by decide +kernel
theorem d_Frame_step_51 : decode prog_6_method_15_code 51 = .ok (.iconst 1, 1) := by decide +kernel
theorem d_Frame_step_52 : decode prog_6_method_15_code 52 = .ok (.iadd, 1) := by decide +kernel
theorem d_Frame_step_53 : decode prog_6_method_15_code 53 = .ok (.putfield 89, 3) := by decide +kernel
theorem d_Frame_step_56 : decode prog_6_method_15_code 56 = .ok (.aload_n 0, 1) := by decide +kernel
theorem d_Frame_step_57 : decode prog_6_method_15_code 57 = .ok (.getfield 31, 3) := by decide +kernel
theorem d_Frame_step_60 : decode prog_6_method_15_code 60 = .ok (.iconst 1, 1) := by decide +kernel
theorem d_Frame_step_61 : decode prog_6_method_15_code 61 = .ok (.isub, 1) := by decide +kernel
theorem d_Frame_step_62 : decode prog_6_method_15_code 62 = .ok (.iconst 2, 1) := by decide +kernel
theorem d_Frame_step_63 : decode prog_6_method_15_code 63 = .ok (.iload_n 3, 1) := by decide +kernel
theorem d_Frame_step_64 : decode prog_6_method_15_code 64 = .ok (.imul, 1) := by decide +kernel
theorem d_Frame_step_65 : decode prog_6_method_15_code 65 = .ok (.isub, 1) := by decide +kernel
theorem d_Frame_step_66 : decode prog_6_method_15_code 66 = .ok (.istore 5, 2) := by decide +kernel
theorem d_Frame_step_68 : decode prog_6_method_15_code 68 = .ok (.aload_n 0, 1) := by decide +kernel
theorem d_Frame_step_69 : decode prog_6_method_15_code 69 = .ok (.iload 5, 2) := by decide +kernel
theorem d_Frame_step_71 : decode prog_6_method_15_code 71 = .ok (.bipush 6, 2) := by decide +kernel
theorem d_Frame_step_73 : decode prog_6_method_15_code 73 = .ok (.if_icmp .le 8, 3) := by decide +kernel
theorem d_Frame_step_76 : decode prog_6_method_15_code 76 = .ok (.iload 5, 2) := by decide +kernel
theorem d_Frame_step_78 : decode prog_6_method_15_code 78 = .ok (.goto 7, 3) := by decide +kernel
theorem d_Frame_step_81 : decode prog_6_method_15_code 81 = .ok (.iload 5, 2) := by decide +kernel
theorem d_Frame_step_83 : decode prog_6_method_15_code 83 = .ok (.iconst 1, 1) := by decide +kernel
theorem d_Frame_step_84 : decode prog_6_method_15_code 84 = .ok (.isub, 1) := by decide +kernel
theorem d_Frame_step_85 : decode prog_6_method_15_code 85 = .ok (.iload 4, 2) := by decide +kernel
theorem d_Frame_step_87 : decode prog_6_method_15_code 87 = .ok (.iconst 2, 1) := by decide +kernel
theorem d_Frame_step_88 : decode prog_6_method_15_code 88 = .ok (.irem, 1) := by decide +kernel
theorem d_Frame_step_89 : decode prog_6_method_15_code 89 = .ok (.isub, 1) := by decide +kernel
theorem d_Frame_step_90 : decode prog_6_method_15_code 90 = .ok (.putfield 107, 3) := by decide +kernel
theorem d_Frame_step_93 : decode prog_6_method_15_code 93 = .ok (.aload_n 0, 1) := by decide +kernel
theorem d_Frame_step_94 : decode prog_6_method_15_code 94 = .ok (.iload_n 3, 1) := by decide +kernel
theorem d_Frame_step_95 : decode prog_6_method_15_code 95 = .ok (.iconst 2, 1) := by decide +kernel
theorem d_Frame_step_96 : decode prog_6_method_15_code 96 = .ok (.irem, 1) := by decide +kernel
theorem d_Frame_step_97 : decode prog_6_method_15_code 97 = .ok (.ifCond .ne 17, 3) := by decide +kernel
theorem d_Frame_step_100 : decode prog_6_method_15_code 100 = .ok (.aload_n 0, 1) := by decide +kernel
theorem d_Frame_step_101 : decode prog_6_method_15_code 101 = .ok (.getfield 31, 3) := by decide +kernel
theorem d_Frame_step_104 : decode prog_6_method_15_code 104 = .ok (.iconst 1, 1) := by decide +kernel
theorem d_Frame_step_105 : decode prog_6_method_15_code 105 = .ok (.isub, 1) := by decide +kernel
theorem d_Frame_step_106 : decode prog_6_method_15_code 106 = .ok (.iload 4, 2) := by decide +kernel
theorem d_Frame_step_108 : decode prog_6_method_15_code 108 = .ok (.iconst 2, 1) := by decide +kernel
theorem d_Frame_step_109 : decode prog_6_method_15_code 109 = .ok (.idiv, 1) := by decide +kernel
theorem d_Frame_step_110 : decode prog_6_method_15_code 110 = .ok (.isub, 1) := by decide +kernel
theorem d_Frame_step_111 : decode prog_6_method_15_code 111 = .ok (.goto 7, 3) := by decide +kernel
theorem d_Frame_step_114 : decode prog_6_method_15_code 114 = .ok (.iload 4, 2) := by decide +kernel
theorem d_Frame_step_116 : decode prog_6_method_15_code 116 = .ok (.iconst 2, 1) := by decide +kernel
theorem d_Frame_step_117 : decode prog_6_method_15_code 117 = .ok (.idiv, 1) := by decide +kernel
theorem d_Frame_step_118 : decode prog_6_method_15_code 118 = .ok (.putfield 110, 3) := by decide +kernel
theorem d_Frame_step_121 : decode prog_6_method_15_code 121 = .ok (.aload_n 0, 1) := by decide +kernel
theorem d_Frame_step_122 : decode prog_6_method_15_code 122 = .ok (.getfield 12, 3) := by decide +kernel
theorem d_Frame_step_125 : decode prog_6_method_15_code 125 = .ok (.aload_n 0, 1) := by decide +kernel
theorem d_Frame_step_126 : decode prog_6_method_15_code 126 = .ok (.getfield 107, 3) := by decide +kernel
theorem d_Frame_step_129 : decode prog_6_method_15_code 129 = .ok (.aload_n 0, 1) := by decide +kernel
theorem d_Frame_step_130 : decode prog_6_method_15_code 130 = .ok (.getfield 110, 3) := by decide +kernel
theorem d_Frame_step_133 : decode prog_6_method_15_code 133 = .ok (.invokevirtual 80, 3) := by decide +kernel
theorem d_Frame_step_136 : decode prog_6_method_15_code 136 = .ok (.ifCond .ne 5, 3) := by decide +kernel
theorem d_Frame_step_139 : decode prog_6_method_15_code 139 = .ok (.iconst 1, 1) := by decide +kernel
theorem d_Frame_step_140 : decode prog_6_method_15_code 140 = .ok (.ireturn, 1) := by decide +kernel
theorem d_Frame_step_141 : decode prog_6_method_15_code 141 = .ok (.goto (-118), 3) := by decide +kernel
theorem d_Frame_step_144 : decode prog_6_method_15_code 144 = .ok (.iconst 0, 1) := by decide +kernel
theorem d_Frame_step_145 : decode prog_6_method_15_code 145 = .ok (.ireturn, 1) := by decide +kernel
theorem d_Frame_placeCodewords_0 : decode prog_6_method_13_code 0 = .ok (.aload_n 0, 1) := by decide +kernel
theorem d_Frame_placeCodewords_1 : decode prog_6_method_13_code 1 = .ok (.iconst 0, 1) := by decide +kernel
theorem d_Frame_placeCodewords_2 : decode prog_6_method_13_code 2 = .ok (.putfield 89, 3) := by decide +kernel
theorem d_Frame_placeCodewords_5 : decode prog_6_method_13_code 5 = .ok (.iconst 0, 1) := by decide +kernel
theorem d_Frame_placeCodewords_6 : decode prog_6_method_13_code 6 = .ok (.istore_n 3, 1) := by decide +kernel
theorem d_Frame_placeCodewords_7 : decode prog_6_method_13_code 7 = .ok (.iload_n 3, 1) := by decide +kernel
theorem d_Frame_placeCodewords_8 : decode prog_6_method_13_code 8 = .ok (.aload_n 1, 1) := by decide +kernel
theorem d_Frame_placeCodewords_9 : decode prog_6_method_13_code 9 = .ok (.invokevirtual 92, 3) := by decide +kernel
theorem d_Frame_placeCodewords_12 : decode prog_6_method_13_code 12 = .ok (.if_icmp .ge 70, 3) := by decide +kernel
theorem d_Frame_placeCodewords_15 : decode prog_6_method_13_code 15 = .ok (.aload_n 1, 1) := by decide +kernel
theorem d_Frame_placeCodewords_16 : decode prog_6_method_13_code 16 = .ok (.aload_n 1, 1) := by decide +kernel
theorem d_Frame_placeCodewords_17 : decode prog_6_method_13_code 17 = .ok (.iload_n 3, 1) := by decide +kernel
theorem d_Frame_placeCodewords_18 : decode prog_6_method_13_code 18 = .ok (.invokevirtual 97, 3) := by decide +kernel
theorem d_Frame_placeCodewords_21 : decode prog_6_method_13_code 21 = .ok (.invokevirtual 100, 3) := by decide +kernel
theorem d_Frame_placeCodewords_24 : decode prog_6_method_13_code 24 = .ok (.istore 4, 2) := by decide +kernel
theorem d_Frame_placeCodewords_26 : decode prog_6_method_13_code 26 = .ok (.bipush 7, 2) := by decide +kernel
theorem d_Frame_placeCodewords_28 : decode prog_6_method_13_code 28 = .ok (.istore 5, 2) := by decide +kernel
theorem d_Frame_placeCodewords_30 : decode prog_6_method_13_code 30 = .ok (.iload 5, 2) := by decide +kernel
theorem d_Frame_placeCodewords_32 : decode prog_6_method_13_code 32 = .ok (.ifCond .lt 44, 3) := by decide +kernel
theorem d_Frame_placeCodewords_35 : decode prog_6_method_13_code 35 = .ok (.aload_n 0, 1) := by decide +kernel
theorem d_Frame_placeCodewords_36 : decode prog_6_method_13_code 36 = .ok (.invokevirtual 103, 3) := by decide +kernel
theorem d_Frame_placeCodewords_39 : decode prog_6_method_13_code 39 = .ok (.ifCond .eq 37, 3) := by decide +kernel
theorem d_Frame_placeCodewords_42 : decode prog_6_method_13_code 42 = .ok (.aload_n 2, 1) := by decide +kernel
theorem d_Frame_placeCodewords_43 : decode prog_6_method_13_code 43 = .ok (.aload_n 0, 1) := by decide +kernel
theorem d_Frame_placeCodewords_44 : decode prog_6_method_13_code 44 = .ok (.getfield 107, 3) := by decide +kernel
theorem d_Frame_placeCodewords_47 : decode prog_6_method_13_code 47 = .ok (.aload_n 0, 1) := by decide +kernel
theorem d_Frame_placeCodewords_48 : decode prog_6_method_13_code 48 = .ok (.getfield 110, 3) := by decide +kernel
theorem d_Frame_placeCodewords_51 : decode prog_6_method_13_code 51 = .ok (.iload 4, 2) := by decide +kernel
theorem d_Frame_placeCodewords_53 : decode prog_6_method_13_code 53 = .ok (.iload 5, 2) := by decide +kernel
theorem d_Frame_placeCodewords_55 : decode prog_6_method_13_code 55 = .ok (.ishr, 1) := by decide +kernel
theorem d_Frame_placeCodewords_56 : decode prog_6_method_13_code 56 = .ok (.iconst 1, 1) := by decide +kernel
theorem d_Frame_placeCodewords_57 : decode prog_6_method_13_code 57 = .ok (.iand, 1) := by decide +kernel
theorem d_Frame_placeCodewords_58 : decode prog_6_method_13_code 58 = .ok (.iconst 1, 1) := by decide +kernel
theorem d_Frame_placeCodewords_59 : decode prog_6_method_13_code 59 = .ok (.if_icmp .ne 7, 3) := by decide +kernel
theorem d_Frame_placeCodewords_62 : decode prog_6_method_13_code 62 = .ok (.iconst 1, 1) := by decide +kernel
theorem d_Frame_placeCodewords_63 : decode prog_6_method_13_code 63 = .ok (.goto 4, 3) := by decide +kernel
theorem d_Frame_placeCodewords_66 : decode prog_6_method_13_code 66 = .ok (.iconst 0, 1) := by decide +kernel
theorem d_Frame_placeCodewords_67 : decode prog_6_method_13_code 67 = .ok (.invokevirtual 59, 3) := by decide +kernel
theorem d_Frame_placeCodewords_70 : decode prog_6_method_13_code 70 = .ok (.iinc 5 (-1), 3) := by decide +kernel
theorem d_Frame_placeCodewords_73 : decode prog_6_method_13_code 73 = .ok (.goto (-43), 3) := by decide +kernel
theorem d_Frame_placeCodewords_76 : decode prog_6_method_13_code 76 = .ok (.iinc 3 1, 3) := by decide +kernel
theorem d_Frame_placeCodewords_79 : decode prog_6_method_13_code 79 = .ok (.goto (-72), 3) := by decide +kernel
theorem d_Frame_placeCodewords_82 : decode prog_6_method_13_code 82 = .ok (.return_, 1) := by decide +kernel
theorem d_Frame_drawForm_0 : decode prog_6_method_11_code 0 = .ok (.bipush 8, 2) := by decide +kernel
theorem d_Frame_drawForm_2 : decode prog_6_method_11_code 2 = .ok (.iload_n 1, 1) := by decide +kernel
theorem d_Frame_drawForm_3 : decode prog_6_method_11_code 3 = .ok (.iconst 1, 1) := by decide +kernel
theorem d_Frame_drawForm_4 : decode prog_6_method_11_code 4 = .ok (.ixor, 1) := by decide +kernel
theorem d_Frame_drawForm_5 : decode prog_6_method_11_code 5 = .ok (.imul, 1) := by decide +kernel
theorem d_Frame_drawForm_6 : decode prog_6_method_11_code 6 = .ok (.iload_n 2, 1) := by decide +kernel
theorem d_Frame_drawForm_7 : decode prog_6_method_11_code 7 = .ok (.iadd, 1) := by decide +kernel
theorem d_Frame_drawForm_8 : decode prog_6_method_11_code 8 = .ok (.invokestatic 74, 3) := by decide +kernel
theorem d_Frame_drawForm_11 : decode prog_6_method_11_code 11 = .ok (.istore_n 3, 1) := by decide +kernel
theorem d_Frame_drawForm_12 : decode prog_6_method_11_code 12 = .ok (.aload_n 0, 1) := by decide +kernel
theorem d_Frame_drawForm_13 : decode prog_6_method_11_code 13 = .ok (.invokevirtual 77, 3) := by decide +kernel
theorem d_Frame_drawForm_16 : decode prog_6_method_11_code 16 = .ok (.istore 4, 2) := by decide +kernel
theorem d_Frame_drawForm_18 : decode prog_6_method_11_code 18 = .ok (.iconst 0, 1) := by decide +kernel
theorem d_Frame_drawForm_19 : decode prog_6_method_11_code 19 = .ok (.istore 5, 2) := by decide +kernel
theorem d_Frame_drawForm_21 : decode prog_6_method_11_code 21 = .ok (.iload 5, 2) := by decide +kernel
theorem d_Frame_drawForm_23 : decode prog_6_method_11_code 23 = .ok (.bipush 15, 2) := by decide +kernel
theorem d_Frame_drawForm_25 : decode prog_6_method_11_code 25 = .ok (.if_icmp .ge 70, 3) := by decide +kernel
theorem d_Frame_drawForm_28 : decode prog_6_method_11_code 28 = .ok (.iload_n 3, 1) := by decide +kernel
theorem d_Frame_drawForm_29 : decode prog_6_method_11_code 29 = .ok (.iload 5, 2) := by decide +kernel
theorem d_Frame_drawForm_31 : decode prog_6_method_11_code 31 = .ok (.ishr, 1) := by decide +kernel
theorem d_Frame_drawForm_32 : decode prog_6_method_11_code 32 = .ok (.iconst 1, 1) := by decide +kernel
theorem d_Frame_drawForm_33 : decode prog_6_method_11_code 33 = .ok (.iand, 1) := by decide +kernel
theorem d_Frame_drawForm_34 : decode prog_6_method_11_code 34 = .ok (.iconst 1, 1) := by decide +kernel
theorem d_Frame_drawForm_35 : decode prog_6_method_11_code 35 = .ok (.if_icmp .ne 7, 3) := by decide +kernel
theorem d_Frame_drawForm_38 : decode prog_6_method_11_code 38 = .ok (.iconst 1, 1) := by decide +kernel
theorem d_Frame_drawForm_39 : decode prog_6_method_11_code 39 = .ok (.goto 4, 3) := by decide +kernel
theorem d_Frame_drawForm_42 : decode prog_6_method_11_code 42 = .ok (.iconst 0, 1) := by decide +kernel
theorem d_Frame_drawForm_43 : decode prog_6_method_11_code 43 = .ok (.istore 6, 2) := by decide +kernel
theorem d_Frame_drawForm_45 : decode prog_6_method_11_code 45 = .ok (.aload_n 0, 1) := by decide +kernel
theorem d_Frame_drawForm_46 : decode prog_6_method_11_code 46 = .ok (.iconst 0, 1) := by decide +kernel
theorem d_Frame_drawForm_47 : decode prog_6_method_11_code 47 = .ok (.iload 5, 2) := by decide +kernel
theorem d_Frame_drawForm_49 : decode prog_6_method_11_code 49 = .ok (.iload 4, 2) := by decide +kernel
theorem d_Frame_drawForm_51 : decode prog_6_method_11_code 51 = .ok (.invokestatic 49, 3) := by decide +kernel
theorem d_Frame_drawForm_54 : decode prog_6_method_11_code 54 = .ok (.iconst 0, 1) := by decide +kernel
theorem d_Frame_drawForm_55 : decode prog_6_method_11_code 55 = .ok (.iload 5, 2) := by decide +kernel
theorem d_Frame_drawForm_57 : decode prog_6_method_11_code 57 = .ok (.iload 4, 2) := by decide +kernel
theorem d_Frame_drawForm_59 : decode prog_6_method_11_code 59 = .ok (.invokestatic 53, 3) := by decide +kernel
theorem d_Frame_drawForm_62 : decode prog_6_method_11_code 62 = .ok (.iload 6, 2) := by decide +kernel
theorem d_Frame_drawForm_64 : decode prog_6_method_11_code 64 = .ok (.invokevirtual 59, 3) := by decide +kernel
theorem d_Frame_drawForm_67 : decode prog_6_method_11_code 67 = .ok (.aload_n 0, 1) := by decide +kernel
theorem d_Frame_drawForm_68 : decode prog_6_method_11_code 68 = .ok (.iconst 1, 1) := by decide +kernel
theorem d_Frame_drawForm_69 : decode prog_6_method_11_code 69 = .ok (.iload 5, 2) := by decide +kernel
theorem d_Frame_drawForm_71 : decode prog_6_method_11_code 71 = .ok (.iload 4, 2) := by decide +kernel
theorem d_Frame_drawForm_73 : decode prog_6_method_11_code 73 = .ok (.invokestatic 49, 3) := by decide +kernel
theorem d_Frame_drawForm_76 : decode prog_6_method_11_code 76 = .ok (.iconst 1, 1) := by decide +kernel
theorem d_Frame_drawForm_77 : decode prog_6_method_11_code 77 = .ok (.iload 5, 2) := by decide +kernel
theorem d_Frame_drawForm_79 : decode prog_6_method_11_code 79 = .ok (.iload 4, 2) := by decide +kernel
theorem d_Frame_drawForm_81 : decode prog_6_method_11_code 81 = .ok (.invokestatic 53, 3) := by decide +kernel
theorem d_Frame_drawForm_84 : decode prog_6_method_11_code 84 = .ok (.iload 6, 2) := by decide +kernel
theorem d_Frame_drawForm_86 : decode prog_6_method_11_code 86 = .ok (.invokevirtual 59, 3) := by decide +kernel
theorem d_Frame_drawForm_89 : decode prog_6_method_11_code 89 = .ok (.iinc 5 1, 3) := by decide +kernel
theorem d_Frame_drawForm_92 : decode prog_6_method_11_code 92 = .ok (.goto (-71), 3) := by decide +kernel
theorem d_Frame_drawForm_95 : decode prog_6_method_11_code 95 = .ok (.return_, 1) := by decide +kernel
abbrev y_Penalty_init : MethodName := ⟨"SquareSymbols$Penalty", "<init>", "()V"⟩
abbrev w_Penalty_init : List Cond := .code y_Penalty_init prog_11_method_1_code 1 none :: lw_g
abbrev y_Penalty_of : MethodName := ⟨"SquareSymbols$Penalty", "of", "(LSquareSymbols$Grid;)I"⟩
abbrev w_Penalty_of : List Cond := .code y_Penalty_of prog_11_method_2_code 6 (some .int) :: lw_g
abbrev y_Penalty_lines : MethodName := ⟨"SquareSymbols$Penalty", "lines", "(LSquareSymbols$Grid;IIII)I"⟩
abbrev w_Penalty_lines : List Cond := .code y_Penalty_lines prog_11_method_3_code 21 (some .int) :: lw_g
abbrev y_Penalty_withRoom : MethodName := ⟨"SquareSymbols$Penalty", "withRoom", "(LSquareSymbols$Grid;IIII)J"⟩
abbrev w_Penalty_withRoom : List Cond := .code y_Penalty_withRoom prog_11_method_4_code 5 (some .long) :: lw_g
abbrev y_Penalty_places : MethodName := ⟨"SquareSymbols$Penalty", "places", "(I)J"⟩
abbrev w_Penalty_places : List Cond := .code y_Penalty_places prog_11_method_5_code 5 (some .long) :: lw_g
abbrev y_Penalty_squares : MethodName := ⟨"SquareSymbols$Penalty", "squares", "(LSquareSymbols$Grid;II)I"⟩
abbrev w_Penalty_squares : List Cond := .code y_Penalty_squares prog_11_method_6_code 13 (some .int) :: lw_g
abbrev y_Penalty_balance : MethodName := ⟨"SquareSymbols$Penalty", "balance", "(LSquareSymbols$Grid;)I"⟩
abbrev w_Penalty_balance : List Cond := .code y_Penalty_balance prog_11_method_7_code 2 (some .int) :: lw_g
theorem d_Penalty_init_0 : decode prog_11_method_1_code 0 = .ok (.aload_n 0, 1) := by decide +kernel
theorem d_Penalty_init_1 : decode prog_11_method_1_code 1 = .ok (.invokespecial 1, 3) := by decide +kernel
theorem d_Penalty_init_4 : decode prog_11_method_1_code 4 = .ok (.aload_n 0, 1) := by decide +kernel
theorem d_Penalty_init_5 : decode prog_11_method_1_code 5 = .ok (.bipush 11, 2) := by decide +kernel
theorem d_Penalty_init_7 : decode prog_11_method_1_code 7 = .ok (.newarray .long, 2) := by decide +kernel
theorem d_Penalty_init_9 : decode prog_11_method_1_code 9 = .ok (.putfield 9, 3) := by decide +kernel
theorem d_Penalty_init_12 : decode prog_11_method_1_code 12 = .ok (.return_, 1) := by decide +kernel
theorem d_Penalty_of_0 : decode prog_11_method_2_code 0 = .ok (.aload_n 1, 1) := by decide +kernel
theorem d_Penalty_of_1 : decode prog_11_method_2_code 1 = .ok (.invokevirtual 13, 3) := by decide +kernel
theorem d_Penalty_of_4 : decode prog_11_method_2_code 4 = .ok (.istore_n 2, 1) := by decide +kernel
theorem d_Penalty_of_5 : decode prog_11_method_2_code 5 = .ok (.iconst 0, 1) := by decide +kernel
theorem d_Penalty_of_6 : decode prog_11_method_2_code 6 = .ok (.istore_n 3, 1) := by decide +kernel
theorem d_Penalty_of_7 : decode prog_11_method_2_code 7 = .ok (.iconst 0, 1) := by decide +kernel
theorem d_Penalty_of_8 : decode prog_11_method_2_code 8 = .ok (.istore 4, 2) := by decide +kernel
theorem d_Penalty_of_10 : decode prog_11_method_2_code 10 = .ok (.iload 4, 2) := by decide +kernel
theorem d_Penalty_of_12 : decode prog_11_method_2_code 12 = .ok (.iload_n 2, 1) := by decide +kernel
theorem d_Penalty_of_13 : decode prog_11_method_2_code 13 = .ok (.if_icmp .ge 63, 3) := by decide +kernel
theorem d_Penalty_of_16 : decode prog_11_method_2_code 16 = .ok (.iconst 0, 1) := by decide +kernel
theorem d_Penalty_of_17 : decode prog_11_method_2_code 17 = .ok (.istore 5, 2) := by decide +kernel
theorem d_Penalty_of_19 : decode prog_11_method_2_code 19 = .ok (.iload 5, 2) := by decide +kernel
theorem d_Penalty_of_21 : decode prog_11_method_2_code 21 = .ok (.iload_n 2, 1) := by decide +kernel
theorem d_Penalty_of_22 : decode prog_11_method_2_code 22 = .ok (.if_icmp .ge 48, 3) := by decide +kernel
theorem d_Penalty_of_25 : decode prog_11_method_2_code 25 = .ok (.iload_n 3, 1) := by decide +kernel
theorem d_Penalty_of_26 : decode prog_11_method_2_code 26 = .ok (.aload_n 0, 1) := by decide +kernel
theorem d_Penalty_of_27 : decode prog_11_method_2_code 27 = .ok (.aload_n 1, 1) := by decide +kernel
theorem d_Penalty_of_28 : decode prog_11_method_2_code 28 = .ok (.iload 5, 2) := by decide +kernel
theorem d_Penalty_of_30 : decode prog_11_method_2_code 30 = .ok (.iload 4, 2) := by decide +kernel
theorem d_Penalty_of_32 : decode prog_11_method_2_code 32 = .ok (.iconst 1, 1) := by decide +kernel
theorem d_Penalty_of_33 : decode prog_11_method_2_code 33 = .ok (.iconst 0, 1) := by decide +kernel
theorem d_Penalty_of_34 : decode prog_11_method_2_code 34 = .ok (.invokevirtual 19, 3) := by decide +kernel
theorem d_Penalty_of_37 : decode prog_11_method_2_code 37 = .ok (.iadd, 1) := by decide +kernel
theorem d_Penalty_of_38 : decode prog_11_method_2_code 38 = .ok (.istore_n 3, 1) := by decide +kernel
theorem d_Penalty_of_39 : decode prog_11_method_2_code 39 = .ok (.iload_n 3, 1) := by decide +kernel
theorem d_Penalty_of_40 : decode prog_11_method_2_code 40 = .ok (.aload_n 0, 1) := by decide +kernel
theorem d_Penalty_of_41 : decode prog_11_method_2_code 41 = .ok (.aload_n 1, 1) := by decide +kernel
theorem d_Penalty_of_42 : decode prog_11_method_2_code 42 = .ok (.iload 5, 2) := by decide +kernel
theorem d_Penalty_of_44 : decode prog_11_method_2_code 44 = .ok (.iload 4, 2) := by decide +kernel
theorem d_Penalty_of_46 : decode prog_11_method_2_code 46 = .ok (.iconst 0, 1) := by decide +kernel
theorem d_Penalty_of_47 : decode prog_11_method_2_code 47 = .ok (.iconst 1, 1) := by decide +kernel
theorem d_Penalty_of_48 : decode prog_11_method_2_code 48 = .ok (.invokevirtual 19, 3) := by decide +kernel
theorem d_Penalty_of_51 : decode prog_11_method_2_code 51 = .ok (.iadd, 1) := by decide +kernel
theorem d_Penalty_of_52 : decode prog_11_method_2_code 52 = .ok (.istore_n 3, 1) := by decide +kernel
theorem d_Penalty_of_53 : decode prog_11_method_2_code 53 = .ok (.iload_n 3, 1) := by decide +kernel
theorem d_Penalty_of_54 : decode prog_11_method_2_code 54 = .ok (.aload_n 1, 1) := by decide +kernel
theorem d_Penalty_of_55 : decode prog_11_method_2_code 55 = .ok (.iload 5, 2) := by decide +kernel
theorem d_Penalty_of_57 : decode prog_11_method_2_code 57 = .ok (.iload 4, 2) := by decide +kernel
theorem d_Penalty_of_59 : decode prog_11_method_2_code 59 = .ok (.invokestatic 23, 3) := by decide +kernel
theorem d_Penalty_of_62 : decode prog_11_method_2_code 62 = .ok (.iadd, 1) := by decide +kernel
theorem d_Penalty_of_63 : decode prog_11_method_2_code 63 = .ok (.istore_n 3, 1) := by decide +kernel
theorem d_Penalty_of_64 : decode prog_11_method_2_code 64 = .ok (.iinc 5 64, 3) := by decide +kernel
theorem d_Penalty_of_67 : decode prog_11_method_2_code 67 = .ok (.goto (-48), 3) := by decide +kernel
theorem d_Penalty_of_70 : decode prog_11_method_2_code 70 = .ok (.iinc 4 1, 3) := by decide +kernel
theorem d_Penalty_of_73 : decode prog_11_method_2_code 73 = .ok (.goto (-63), 3) := by decide +kernel
theorem d_Penalty_of_76 : decode prog_11_method_2_code 76 = .ok (.iload_n 3, 1) := by decide +kernel
theorem d_Penalty_of_77 : decode prog_11_method_2_code 77 = .ok (.aload_n 1, 1) := by decide +kernel
theorem d_Penalty_of_78 : decode prog_11_method_2_code 78 = .ok (.invokestatic 27, 3) := by decide +kernel
theorem d_Penalty_of_81 : decode prog_11_method_2_code 81 = .ok (.iadd, 1) := by decide +kernel
theorem d_Penalty_of_82 : decode prog_11_method_2_code 82 = .ok (.ireturn, 1) := by decide +kernel
theorem d_Penalty_lines_0 : decode prog_11_method_3_code 0 = .ok (.ldc2_w 31, 3) := by decide +kernel
theorem d_Penalty_lines_3 : decode prog_11_method_3_code 3 = .ok (.lstore 6, 2) := by decide +kernel
theorem d_Penalty_lines_5 : decode prog_11_method_3_code 5 = .ok (.ldc2_w 31, 3) := by decide +kernel
theorem d_Penalty_lines_8 : decode prog_11_method_3_code 8 = .ok (.lstore 8, 2) := by decide +kernel
theorem d_Penalty_lines_10 : decode prog_11_method_3_code 10 = .ok (.iconst 0, 1) := by decide +kernel
theorem d_Penalty_lines_11 : decode prog_11_method_3_code 11 = .ok (.istore 10, 2) := by decide +kernel
theorem d_Penalty_lines_13 : decode prog_11_method_3_code 13 = .ok (.iload 10, 2) := by decide +kernel
theorem d_Penalty_lines_15 : decode prog_11_method_3_code 15 = .ok (.bipush 11, 2) := by decide +kernel
theorem d_Penalty_lines_17 : decode prog_11_method_3_code 17 = .ok (.if_icmp .ge 68, 3) := by decide +kernel
theorem d_Penalty_lines_20 : decode prog_11_method_3_code 20 = .ok (.aload_n 0, 1) := by decide +kernel
theorem d_Penalty_lines_21 : decode prog_11_method_3_code 21 = .ok (.getfield 9, 3) := by decide +kernel
theorem d_Penalty_lines_24 : decode prog_11_method_3_code 24 = .ok (.iload 10, 2) := by decide +kernel
theorem d_Penalty_lines_26 : decode prog_11_method_3_code 26 = .ok (.aload_n 1, 1) := by decide +kernel
theorem d_Penalty_lines_27 : decode prog_11_method_3_code 27 = .ok (.iload_n 2, 1) := by decide +kernel
theorem d_Penalty_lines_28 : decode prog_11_method_3_code 28 = .ok (.iload 10, 2) := by decide +kernel
theorem d_Penalty_lines_30 : decode prog_11_method_3_code 30 = .ok (.iload 4, 2) := by decide +kernel
theorem d_Penalty_lines_32 : decode prog_11_method_3_code 32 = .ok (.imul, 1) := by decide +kernel
theorem d_Penalty_lines_33 : decode prog_11_method_3_code 33 = .ok (.iadd, 1) := by decide +kernel
theorem d_Penalty_lines_34 : decode prog_11_method_3_code 34 = .ok (.iload_n 3, 1) := by decide +kernel
theorem d_Penalty_lines_35 : decode prog_11_method_3_code 35 = .ok (.iload 10, 2) := by decide +kernel
theorem d_Penalty_lines_37 : decode prog_11_method_3_code 37 = .ok (.iload 5, 2) := by decide +kernel
theorem d_Penalty_lines_39 : decode prog_11_method_3_code 39 = .ok (.imul, 1) := by decide +kernel
theorem d_Penalty_lines_40 : decode prog_11_method_3_code 40 = .ok (.iadd, 1) := by decide +kernel
theorem d_Penalty_lines_41 : decode prog_11_method_3_code 41 = .ok (.invokevirtual 33, 3) := by decide +kernel
theorem d_Penalty_lines_44 : decode prog_11_method_3_code 44 = .ok (.lastore, 1) := by decide +kernel
theorem d_Penalty_lines_45 : decode prog_11_method_3_code 45 = .ok (.iload 10, 2) := by decide +kernel
theorem d_Penalty_lines_47 : decode prog_11_method_3_code 47 = .ok (.iconst 5, 1) := by decide +kernel
theorem d_Penalty_lines_48 : decode prog_11_method_3_code 48 = .ok (.if_icmp .ge 31, 3) := by decide +kernel
theorem d_Penalty_lines_51 : decode prog_11_method_3_code 51 = .ok (.lload 6, 2) := by decide +kernel
theorem d_Penalty_lines_53 : decode prog_11_method_3_code 53 = .ok (.aload_n 0, 1) := by decide +kernel
theorem d_Penalty_lines_54 : decode prog_11_method_3_code 54 = .ok (.getfield 9, 3) := by decide +kernel
theorem d_Penalty_lines_57 : decode prog_11_method_3_code 57 = .ok (.iload 10, 2) := by decide +kernel
theorem d_Penalty_lines_59 : decode prog_11_method_3_code 59 = .ok (.laload, 1) := by decide +kernel
theorem d_Penalty_lines_60 : decode prog_11_method_3_code 60 = .ok (.land, 1) := by decide +kernel
theorem d_Penalty_lines_61 : decode prog_11_method_3_code 61 = .ok (.lstore 6, 2) := by decide +kernel
theorem d_Penalty_lines_63 : decode prog_11_method_3_code 63 = .ok (.lload 8, 2) := by decide +kernel
theorem d_Penalty_lines_65 : decode prog_11_method_3_code 65 = .ok (.aload_n 0, 1) := by decide +kernel
theorem d_Penalty_lines_66 : decode prog_11_method_3_code 66 = .ok (.getfield 9, 3) := by decide +kernel
theorem d_Penalty_lines_69 : decode prog_11_method_3_code 69 = .ok (.iload 10, 2) := by decide +kernel
theorem d_Penalty_lines_71 : decode prog_11_method_3_code 71 = .ok (.laload, 1) := by decide +kernel
theorem d_Penalty_lines_72 : decode prog_11_method_3_code 72 = .ok (.ldc2_w 31, 3) := by decide +kernel
theorem d_Penalty_lines_75 : decode prog_11_method_3_code 75 = .ok (.lxor, 1) := by decide +kernel
theorem d_Penalty_lines_76 : decode prog_11_method_3_code 76 = .ok (.land, 1) := by decide +kernel
theorem d_Penalty_lines_77 : decode prog_11_method_3_code 77 = .ok (.lstore 8, 2) := by decide +kernel
theorem d_Penalty_lines_79 : decode prog_11_method_3_code 79 = .ok (.iinc 10 1, 3) := by decide +kernel
theorem d_Penalty_lines_82 : decode prog_11_method_3_code 82 = .ok (.goto (-69), 3) := by decide +kernel
theorem d_Penalty_lines_85 : decode prog_11_method_3_code 85 = .ok (.iconst 4, 1) := by decide +kernel
theorem d_Penalty_lines_86 : decode prog_11_method_3_code 86 = .ok (.istore 10, 2) := by decide +kernel
theorem d_Penalty_lines_88 : decode prog_11_method_3_code 88 = .ok (.lload 6, 2) := by decide +kernel
theorem d_Penalty_lines_90 : decode prog_11_method_3_code 90 = .ok (.lload 8, 2) := by decide +kernel
theorem d_Penalty_lines_92 : decode prog_11_method_3_code 92 = .ok (.lor, 1) := by decide +kernel
theorem d_Penalty_lines_93 : decode prog_11_method_3_code 93 = .ok (.aload_n 1, 1) := by decide +kernel
theorem d_Penalty_lines_94 : decode prog_11_method_3_code 94 = .ok (.iload_n 2, 1) := by decide +kernel
theorem d_Penalty_lines_95 : decode prog_11_method_3_code 95 = .ok (.iload_n 3, 1) := by decide +kernel
theorem d_Penalty_lines_96 : decode prog_11_method_3_code 96 = .ok (.iload 10, 2) := by decide +kernel
theorem d_Penalty_lines_98 : decode prog_11_method_3_code 98 = .ok (.iload 4, 2) := by decide +kernel
theorem d_Penalty_lines_100 : decode prog_11_method_3_code 100 = .ok (.imul, 1) := by decide +kernel
theorem d_Penalty_lines_101 : decode prog_11_method_3_code 101 = .ok (.iload 10, 2) := by decide +kernel
theorem d_Penalty_lines_103 : decode prog_11_method_3_code 103 = .ok (.iload 5, 2) := by decide +kernel
theorem d_Penalty_lines_105 : decode prog_11_method_3_code 105 = .ok (.imul, 1) := by decide +kernel
theorem d_Penalty_lines_106 : decode prog_11_method_3_code 106 = .ok (.invokestatic 37, 3) := by decide +kernel
theorem d_Penalty_lines_109 : decode prog_11_method_3_code 109 = .ok (.land, 1) := by decide +kernel
theorem d_Penalty_lines_110 : decode prog_11_method_3_code 110 = .ok (.lstore 11, 2) := by decide +kernel
theorem d_Penalty_lines_112 : decode prog_11_method_3_code 112 = .ok (.iload 5, 2) := by decide +kernel
theorem d_Penalty_lines_114 : decode prog_11_method_3_code 114 = .ok (.ifCond .ne 15, 3) := by decide +kernel
theorem d_Penalty_lines_117 : decode prog_11_method_3_code 117 = .ok (.iload_n 2, 1) := by decide +kernel
theorem d_Penalty_lines_118 : decode prog_11_method_3_code 118 = .ok (.ifCond .ne 7, 3) := by decide +kernel
theorem d_Penalty_lines_121 : decode prog_11_method_3_code 121 = .ok (.lconst 1, 1) := by decide +kernel
theorem d_Penalty_lines_122 : decode prog_11_method_3_code 122 = .ok (.goto 18, 3) := by decide +kernel
theorem d_Penalty_lines_125 : decode prog_11_method_3_code 125 = .ok (.lconst 0, 1) := by decide +kernel
theorem d_Penalty_lines_126 : decode prog_11_method_3_code 126 = .ok (.goto 14, 3) := by decide +kernel
theorem d_Penalty_lines_129 : decode prog_11_method_3_code 129 = .ok (.iload_n 3, 1) := by decide +kernel
theorem d_Penalty_lines_130 : decode prog_11_method_3_code 130 = .ok (.ifCond .ne 9, 3) := by decide +kernel
theorem d_Penalty_lines_133 : decode prog_11_method_3_code 133 = .ok (.ldc2_w 31, 3) := by decide +kernel
theorem d_Penalty_lines_136 : decode prog_11_method_3_code 136 = .ok (.goto 4, 3) := by decide +kernel
theorem d_Penalty_lines_139 : decode prog_11_method_3_code 139 = .ok (.lconst 0, 1) := by decide +kernel
theorem d_Penalty_lines_140 : decode prog_11_method_3_code 140 = .ok (.lstore 13, 2) := by decide +kernel
theorem d_Penalty_lines_142 : decode prog_11_method_3_code 142 = .ok (.lload 11, 2) := by decide +kernel
theorem d_Penalty_lines_144 : decode prog_11_method_3_code 144 = .ok (.lload 13, 2) := by decide +kernel
theorem d_Penalty_lines_146 : decode prog_11_method_3_code 146 = .ok (.aload_n 1, 1) := by decide +kernel
theorem d_Penalty_lines_147 : decode prog_11_method_3_code 147 = .ok (.iload_n 2, 1) := by decide +kernel
theorem d_Penalty_lines_148 : decode prog_11_method_3_code 148 = .ok (.iload 4, 2) := by decide +kernel
theorem d_Penalty_lines_150 : decode prog_11_method_3_code 150 = .ok (.isub, 1) := by decide +kernel
theorem d_Penalty_lines_151 : decode prog_11_method_3_code 151 = .ok (.iload_n 3, 1) := by decide +kernel
theorem d_Penalty_lines_152 : decode prog_11_method_3_code 152 = .ok (.iload 5, 2) := by decide +kernel
theorem d_Penalty_lines_154 : decode prog_11_method_3_code 154 = .ok (.isub, 1) := by decide +kernel
theorem d_Penalty_lines_155 : decode prog_11_method_3_code 155 = .ok (.invokevirtual 33, 3) := by decide +kernel
theorem d_Penalty_lines_158 : decode prog_11_method_3_code 158 = .ok (.aload_n 0, 1) := by decide +kernel
theorem d_Penalty_lines_159 : decode prog_11_method_3_code 159 = .ok (.getfield 9, 3) := by decide +kernel
theorem d_Penalty_lines_162 : decode prog_11_method_3_code 162 = .ok (.iconst 0, 1) := by decide +kernel
theorem d_Penalty_lines_163 : decode prog_11_method_3_code 163 = .ok (.laload, 1) := by decide +kernel
theorem d_Penalty_lines_164 : decode prog_11_method_3_code 164 = .ok (.lxor, 1) := by decide +kernel
theorem d_Penalty_lines_165 : decode prog_11_method_3_code 165 = .ok (.lor, 1) := by decide +kernel
theorem d_Penalty_lines_166 : decode prog_11_method_3_code 166 = .ok (.land, 1) := by decide +kernel
theorem d_Penalty_lines_167 : decode prog_11_method_3_code 167 = .ok (.lstore 15, 2) := by decide +kernel
theorem d_Penalty_lines_169 : decode prog_11_method_3_code 169 = .ok (.bipush 10, 2) := by decide +kernel
theorem d_Penalty_lines_171 : decode prog_11_method_3_code 171 = .ok (.istore 17, 2) := by decide +kernel
theorem d_Penalty_lines_173 : decode prog_11_method_3_code 173 = .ok (.aload_n 1, 1) := by decide +kernel
theorem d_Penalty_lines_174 : decode prog_11_method_3_code 174 = .ok (.iload_n 2, 1) := by decide +kernel
theorem d_Penalty_lines_175 : decode prog_11_method_3_code 175 = .ok (.iload_n 3, 1) := by decide +kernel
theorem d_Penalty_lines_176 : decode prog_11_method_3_code 176 = .ok (.iload 17, 2) := by decide +kernel
theorem d_Penalty_lines_178 : decode prog_11_method_3_code 178 = .ok (.iload 4, 2) := by decide +kernel
theorem d_Penalty_lines_180 : decode prog_11_method_3_code 180 = .ok (.imul, 1) := by decide +kernel
theorem d_Penalty_lines_181 : decode prog_11_method_3_code 181 = .ok (.iload 17, 2) := by decide +kernel
theorem d_Penalty_lines_183 : decode prog_11_method_3_code 183 = .ok (.iload 5, 2) := by decide +kernel
theorem d_Penalty_lines_185 : decode prog_11_method_3_code 185 = .ok (.imul, 1) := by decide +kernel
theorem d_Penalty_lines_186 : decode prog_11_method_3_code 186 = .ok (.invokestatic 37, 3) := by decide +kernel
theorem d_Penalty_lines_189 : decode prog_11_method_3_code 189 = .ok (.lstore 18, 2) := by decide +kernel
theorem d_Penalty_lines_191 : decode prog_11_method_3_code 191 = .ok (.aload_n 0, 1) := by decide +kernel
theorem d_Penalty_lines_192 : decode prog_11_method_3_code 192 = .ok (.bipush 93, 2) := by decide +kernel
theorem d_Penalty_lines_194 : decode prog_11_method_3_code 194 = .ok (.invokevirtual 41, 3) := by decide +kernel
theorem d_Penalty_lines_197 : decode prog_11_method_3_code 197 = .ok (.lload 18, 2) := by decide +kernel
theorem d_Penalty_lines_199 : decode prog_11_method_3_code 199 = .ok (.land, 1) := by decide +kernel
theorem d_Penalty_lines_200 : decode prog_11_method_3_code 200 = .ok (.invokestatic 45, 3) := by decide +kernel
theorem d_Penalty_lines_203 : decode prog_11_method_3_code 203 = .ok (.aload_n 0, 1) := by decide +kernel
theorem d_Penalty_lines_204 : decode prog_11_method_3_code 204 = .ok (.sipush 1488, 3) := by decide +kernel
theorem d_Penalty_lines_207 : decode prog_11_method_3_code 207 = .ok (.invokevirtual 41, 3) := by decide +kernel
theorem d_Penalty_lines_210 : decode prog_11_method_3_code 210 = .ok (.lload 18, 2) := by decide +kernel
theorem d_Penalty_lines_212 : decode prog_11_method_3_code 212 = .ok (.land, 1) := by decide +kernel
theorem d_Penalty_lines_213 : decode prog_11_method_3_code 213 = .ok (.invokestatic 45, 3) := by decide +kernel
theorem d_Penalty_lines_216 : decode prog_11_method_3_code 216 = .ok (.iadd, 1) := by decide +kernel
theorem d_Penalty_lines_217 : decode prog_11_method_3_code 217 = .ok (.istore 20, 2) := by decide +kernel
theorem d_Penalty_lines_219 : decode prog_11_method_3_code 219 = .ok (.lload 11, 2) := by decide +kernel
theorem d_Penalty_lines_221 : decode prog_11_method_3_code 221 = .ok (.invokestatic 45, 3) := by decide +kernel
theorem d_Penalty_lines_224 : decode prog_11_method_3_code 224 = .ok (.iconst 2, 1) := by decide +kernel
theorem d_Penalty_lines_225 : decode prog_11_method_3_code 225 = .ok (.lload 15, 2) := by decide +kernel
theorem d_Penalty_lines_227 : decode prog_11_method_3_code 227 = .ok (.invokestatic 45, 3) := by decide +kernel
theorem d_Penalty_lines_230 : decode prog_11_method_3_code 230 = .ok (.imul, 1) := by decide +kernel
theorem d_Penalty_lines_231 : decode prog_11_method_3_code 231 = .ok (.iadd, 1) := by decide +kernel
theorem d_Penalty_lines_232 : decode prog_11_method_3_code 232 = .ok (.bipush 40, 2) := by decide +kernel
theorem d_Penalty_lines_234 : decode prog_11_method_3_code 234 = .ok (.iload 20, 2) := by decide +kernel
theorem d_Penalty_lines_236 : decode prog_11_method_3_code 236 = .ok (.imul, 1) := by decide +kernel
theorem d_Penalty_lines_237 : decode prog_11_method_3_code 237 = .ok (.iadd, 1) := by decide +kernel
theorem d_Penalty_lines_238 : decode prog_11_method_3_code 238 = .ok (.ireturn, 1) := by decide +kernel
theorem d_Penalty_withRoom_0 : decode prog_11_method_4_code 0 = .ok (.iload_n 2, 1) := by decide +kernel
theorem d_Penalty_withRoom_1 : decode prog_11_method_4_code 1 = .ok (.iload 4, 2) := by decide +kernel
theorem d_Penalty_withRoom_3 : decode prog_11_method_4_code 3 = .ok (.iadd, 1) := by decide +kernel
theorem d_Penalty_withRoom_4 : decode prog_11_method_4_code 4 = .ok (.aload_n 0, 1) := by decide +kernel
theorem d_Penalty_withRoom_5 : decode prog_11_method_4_code 5 = .ok (.invokevirtual 13, 3) := by decide +kernel
theorem d_Penalty_withRoom_8 : decode prog_11_method_4_code 8 = .ok (.if_icmp .ge 17, 3) := by decide +kernel
theorem d_Penalty_withRoom_11 : decode prog_11_method_4_code 11 = .ok (.aload_n 0, 1) := by decide +kernel
theorem d_Penalty_withRoom_12 : decode prog_11_method_4_code 12 = .ok (.invokevirtual 13, 3) := by decide +kernel
theorem d_Penalty_withRoom_15 : decode prog_11_method_4_code 15 = .ok (.iload_n 1, 1) := by decide +kernel
theorem d_Penalty_withRoom_16 : decode prog_11_method_4_code 16 = .ok (.isub, 1) := by decide +kernel
theorem d_Penalty_withRoom_17 : decode prog_11_method_4_code 17 = .ok (.iload_n 3, 1) := by decide +kernel
theorem d_Penalty_withRoom_18 : decode prog_11_method_4_code 18 = .ok (.isub, 1) := by decide +kernel
theorem d_Penalty_withRoom_19 : decode prog_11_method_4_code 19 = .ok (.invokestatic 51, 3) := by decide +kernel
theorem d_Penalty_withRoom_22 : decode prog_11_method_4_code 22 = .ok (.goto 4, 3) := by decide +kernel
theorem d_Penalty_withRoom_25 : decode prog_11_method_4_code 25 = .ok (.lconst 0, 1) := by decide +kernel
theorem d_Penalty_withRoom_26 : decode prog_11_method_4_code 26 = .ok (.lreturn, 1) := by decide +kernel
theorem d_Penalty_places_0 : decode prog_11_method_5_code 0 = .ok (.ldc2_w 31, 3) := by decide +kernel
theorem d_Penalty_places_3 : decode prog_11_method_5_code 3 = .ok (.lstore_n 2, 1) := by decide +kernel
theorem d_Penalty_places_4 : decode prog_11_method_5_code 4 = .ok (.iconst 0, 1) := by decide +kernel
theorem d_Penalty_places_5 : decode prog_11_method_5_code 5 = .ok (.istore 4, 2) := by decide +kernel
theorem d_Penalty_places_7 : decode prog_11_method_5_code 7 = .ok (.iload 4, 2) := by decide +kernel
theorem d_Penalty_places_9 : decode prog_11_method_5_code 9 = .ok (.bipush 11, 2) := by decide +kernel
theorem d_Penalty_places_11 : decode prog_11_method_5_code 11 = .ok (.if_icmp .ge 43, 3) := by decide +kernel
theorem d_Penalty_places_14 : decode prog_11_method_5_code 14 = .ok (.lload_n 2, 1) := by decide +kernel
theorem d_Penalty_places_15 : decode prog_11_method_5_code 15 = .ok (.iload_n 1, 1) := by decide +kernel
theorem d_Penalty_places_16 : decode prog_11_method_5_code 16 = .ok (.iload 4, 2) := by decide +kernel
theorem d_Penalty_places_18 : decode prog_11_method_5_code 18 = .ok (.ishr, 1) := by decide +kernel
theorem d_Penalty_places_19 : decode prog_11_method_5_code 19 = .ok (.iconst 1, 1) := by decide +kernel
theorem d_Penalty_places_20 : decode prog_11_method_5_code 20 = .ok (.iand, 1) := by decide +kernel
theorem d_Penalty_places_21 : decode prog_11_method_5_code 21 = .ok (.iconst 1, 1) := by decide +kernel
theorem d_Penalty_places_22 : decode prog_11_method_5_code 22 = .ok (.if_icmp .ne 13, 3) := by decide +kernel
theorem d_Penalty_places_25 : decode prog_11_method_5_code 25 = .ok (.aload_n 0, 1) := by decide +kernel
theorem d_Penalty_places_26 : decode prog_11_method_5_code 26 = .ok (.getfield 9, 3) := by decide +kernel
theorem d_Penalty_places_29 : decode prog_11_method_5_code 29 = .ok (.iload 4, 2) := by decide +kernel
theorem d_Penalty_places_31 : decode prog_11_method_5_code 31 = .ok (.laload, 1) := by decide +kernel
theorem d_Penalty_places_32 : decode prog_11_method_5_code 32 = .ok (.goto 14, 3) := by decide +kernel
theorem d_Penalty_places_35 : decode prog_11_method_5_code 35 = .ok (.aload_n 0, 1) := by decide +kernel
theorem d_Penalty_places_36 : decode prog_11_method_5_code 36 = .ok (.getfield 9, 3) := by decide +kernel
theorem d_Penalty_places_39 : decode prog_11_method_5_code 39 = .ok (.iload 4, 2) := by decide +kernel
theorem d_Penalty_places_41 : decode prog_11_method_5_code 41 = .ok (.laload, 1) := by decide +kernel
theorem d_Penalty_places_42 : decode prog_11_method_5_code 42 = .ok (.ldc2_w 31, 3) := by decide +kernel
theorem d_Penalty_places_45 : decode prog_11_method_5_code 45 = .ok (.lxor, 1) := by decide +kernel
theorem d_Penalty_places_46 : decode prog_11_method_5_code 46 = .ok (.land, 1) := by decide +kernel
theorem d_Penalty_places_47 : decode prog_11_method_5_code 47 = .ok (.lstore_n 2, 1) := by decide +kernel
theorem d_Penalty_places_48 : decode prog_11_method_5_code 48 = .ok (.iinc 4 1, 3) := by decide +kernel
theorem d_Penalty_places_51 : decode prog_11_method_5_code 51 = .ok (.goto (-44), 3) := by decide +kernel
theorem d_Penalty_places_54 : decode prog_11_method_5_code 54 = .ok (.lload_n 2, 1) := by decide +kernel
theorem d_Penalty_places_55 : decode prog_11_method_5_code 55 = .ok (.lreturn, 1) := by decide +kernel
theorem d_Penalty_squares_0 : decode prog_11_method_6_code 0 = .ok (.aload_n 0, 1) := by decide +kernel
theorem d_Penalty_squares_1 : decode prog_11_method_6_code 1 = .ok (.iload_n 1, 1) := by decide +kernel
theorem d_Penalty_squares_2 : decode prog_11_method_6_code 2 = .ok (.iload_n 2, 1) := by decide +kernel
theorem d_Penalty_squares_3 : decode prog_11_method_6_code 3 = .ok (.invokevirtual 33, 3) := by decide +kernel
theorem d_Penalty_squares_6 : decode prog_11_method_6_code 6 = .ok (.lstore_n 3, 1) := by decide +kernel
theorem d_Penalty_squares_7 : decode prog_11_method_6_code 7 = .ok (.aload_n 0, 1) := by decide +kernel
theorem d_Penalty_squares_8 : decode prog_11_method_6_code 8 = .ok (.iload_n 1, 1) := by decide +kernel
theorem d_Penalty_squares_9 : decode prog_11_method_6_code 9 = .ok (.iconst 1, 1) := by decide +kernel
theorem d_Penalty_squares_10 : decode prog_11_method_6_code 10 = .ok (.iadd, 1) := by decide +kernel
theorem d_Penalty_squares_11 : decode prog_11_method_6_code 11 = .ok (.iload_n 2, 1) := by decide +kernel
theorem d_Penalty_squares_12 : decode prog_11_method_6_code 12 = .ok (.invokevirtual 33, 3) := by decide +kernel
theorem d_Penalty_squares_15 : decode prog_11_method_6_code 15 = .ok (.lstore 5, 2) := by decide +kernel
theorem d_Penalty_squares_17 : decode prog_11_method_6_code 17 = .ok (.aload_n 0, 1) := by decide +kernel
theorem d_Penalty_squares_18 : decode prog_11_method_6_code 18 = .ok (.iload_n 1, 1) := by decide +kernel
theorem d_Penalty_squares_19 : decode prog_11_method_6_code 19 = .ok (.iload_n 2, 1) := by decide +kernel
theorem d_Penalty_squares_20 : decode prog_11_method_6_code 20 = .ok (.iconst 1, 1) := by decide +kernel
theorem d_Penalty_squares_21 : decode prog_11_method_6_code 21 = .ok (.iadd, 1) := by decide +kernel
theorem d_Penalty_squares_22 : decode prog_11_method_6_code 22 = .ok (.invokevirtual 33, 3) := by decide +kernel
theorem d_Penalty_squares_25 : decode prog_11_method_6_code 25 = .ok (.lstore 7, 2) := by decide +kernel
theorem d_Penalty_squares_27 : decode prog_11_method_6_code 27 = .ok (.aload_n 0, 1) := by decide +kernel
theorem d_Penalty_squares_28 : decode prog_11_method_6_code 28 = .ok (.iload_n 1, 1) := by decide +kernel
theorem d_Penalty_squares_29 : decode prog_11_method_6_code 29 = .ok (.iconst 1, 1) := by decide +kernel
theorem d_Penalty_squares_30 : decode prog_11_method_6_code 30 = .ok (.iadd, 1) := by decide +kernel
theorem d_Penalty_squares_31 : decode prog_11_method_6_code 31 = .ok (.iload_n 2, 1) := by decide +kernel
theorem d_Penalty_squares_32 : decode prog_11_method_6_code 32 = .ok (.iconst 1, 1) := by decide +kernel
theorem d_Penalty_squares_33 : decode prog_11_method_6_code 33 = .ok (.iadd, 1) := by decide +kernel
theorem d_Penalty_squares_34 : decode prog_11_method_6_code 34 = .ok (.invokevirtual 33, 3) := by decide +kernel
theorem d_Penalty_squares_37 : decode prog_11_method_6_code 37 = .ok (.lstore 9, 2) := by decide +kernel
theorem d_Penalty_squares_39 : decode prog_11_method_6_code 39 = .ok (.lload_n 3, 1) := by decide +kernel
theorem d_Penalty_squares_40 : decode prog_11_method_6_code 40 = .ok (.lload 5, 2) := by decide +kernel
theorem d_Penalty_squares_42 : decode prog_11_method_6_code 42 = .ok (.land, 1) := by decide +kernel
theorem d_Penalty_squares_43 : decode prog_11_method_6_code 43 = .ok (.lload 7, 2) := by decide +kernel
theorem d_Penalty_squares_45 : decode prog_11_method_6_code 45 = .ok (.land, 1) := by decide +kernel
theorem d_Penalty_squares_46 : decode prog_11_method_6_code 46 = .ok (.lload 9, 2) := by decide +kernel
theorem d_Penalty_squares_48 : decode prog_11_method_6_code 48 = .ok (.land, 1) := by decide +kernel
theorem d_Penalty_squares_49 : decode prog_11_method_6_code 49 = .ok (.lload_n 3, 1) := by decide +kernel
theorem d_Penalty_squares_50 : decode prog_11_method_6_code 50 = .ok (.lload 5, 2) := by decide +kernel
theorem d_Penalty_squares_52 : decode prog_11_method_6_code 52 = .ok (.lor, 1) := by decide +kernel
theorem d_Penalty_squares_53 : decode prog_11_method_6_code 53 = .ok (.lload 7, 2) := by decide +kernel
theorem d_Penalty_squares_55 : decode prog_11_method_6_code 55 = .ok (.lor, 1) := by decide +kernel
theorem d_Penalty_squares_56 : decode prog_11_method_6_code 56 = .ok (.lload 9, 2) := by decide +kernel
theorem d_Penalty_squares_58 : decode prog_11_method_6_code 58 = .ok (.lor, 1) := by decide +kernel
theorem d_Penalty_squares_59 : decode prog_11_method_6_code 59 = .ok (.ldc2_w 31, 3) := by decide +kernel
theorem d_Penalty_squares_62 : decode prog_11_method_6_code 62 = .ok (.lxor, 1) := by decide +kernel
theorem d_Penalty_squares_63 : decode prog_11_method_6_code 63 = .ok (.lor, 1) := by decide +kernel
theorem d_Penalty_squares_64 : decode prog_11_method_6_code 64 = .ok (.lstore 11, 2) := by decide +kernel
theorem d_Penalty_squares_66 : decode prog_11_method_6_code 66 = .ok (.iconst 3, 1) := by decide +kernel
theorem d_Penalty_squares_67 : decode prog_11_method_6_code 67 = .ok (.lload 11, 2) := by decide +kernel
theorem d_Penalty_squares_69 : decode prog_11_method_6_code 69 = .ok (.aload_n 0, 1) := by decide +kernel
theorem d_Penalty_squares_70 : decode prog_11_method_6_code 70 = .ok (.iload_n 1, 1) := by decide +kernel
theorem d_Penalty_squares_71 : decode prog_11_method_6_code 71 = .ok (.iload_n 2, 1) := by decide +kernel
theorem d_Penalty_squares_72 : decode prog_11_method_6_code 72 = .ok (.iconst 1, 1) := by decide +kernel
theorem d_Penalty_squares_73 : decode prog_11_method_6_code 73 = .ok (.iconst 1, 1) := by decide +kernel
theorem d_Penalty_squares_74 : decode prog_11_method_6_code 74 = .ok (.invokestatic 37, 3) := by decide +kernel
theorem d_Penalty_squares_77 : decode prog_11_method_6_code 77 = .ok (.land, 1) := by decide +kernel
theorem d_Penalty_squares_78 : decode prog_11_method_6_code 78 = .ok (.invokestatic 45, 3) := by decide +kernel
theorem d_Penalty_squares_81 : decode prog_11_method_6_code 81 = .ok (.imul, 1) := by decide +kernel
theorem d_Penalty_squares_82 : decode prog_11_method_6_code 82 = .ok (.ireturn, 1) := by decide +kernel
theorem d_Penalty_balance_0 : decode prog_11_method_7_code 0 = .ok (.iconst 1, 1) := by decide +kernel
theorem d_Penalty_balance_1 : decode prog_11_method_7_code 1 = .ok (.aload_n 0, 1) := by decide +kernel
theorem d_Penalty_balance_2 : decode prog_11_method_7_code 2 = .ok (.invokevirtual 13, 3) := by decide +kernel
theorem d_Penalty_balance_5 : decode prog_11_method_7_code 5 = .ok (.aload_n 0, 1) := by decide +kernel
theorem d_Penalty_balance_6 : decode prog_11_method_7_code 6 = .ok (.invokevirtual 13, 3) := by decide +kernel
theorem d_Penalty_balance_9 : decode prog_11_method_7_code 9 = .ok (.imul, 1) := by decide +kernel
theorem d_Penalty_balance_10 : decode prog_11_method_7_code 10 = .ok (.invokestatic 56, 3) := by decide +kernel
theorem d_Penalty_balance_13 : decode prog_11_method_7_code 13 = .ok (.istore_n 1, 1) := by decide +kernel
theorem d_Penalty_balance_14 : decode prog_11_method_7_code 14 = .ok (.bipush 10, 2) := by decide +kernel
theorem d_Penalty_balance_16 : decode prog_11_method_7_code 16 = .ok (.bipush 20, 2) := by decide +kernel
theorem d_Penalty_balance_18 : decode prog_11_method_7_code 18 = .ok (.aload_n 0, 1) := by decide +kernel
theorem d_Penalty_balance_19 : decode prog_11_method_7_code 19 = .ok (.invokevirtual 62, 3) := by decide +kernel
theorem d_Penalty_balance_22 : decode prog_11_method_7_code 22 = .ok (.imul, 1) := by decide +kernel
theorem d_Penalty_balance_23 : decode prog_11_method_7_code 23 = .ok (.bipush 10, 2) := by decide +kernel
theorem d_Penalty_balance_25 : decode prog_11_method_7_code 25 = .ok (.iload_n 1, 1) := by decide +kernel
theorem d_Penalty_balance_26 : decode prog_11_method_7_code 26 = .ok (.imul, 1) := by decide +kernel
theorem d_Penalty_balance_27 : decode prog_11_method_7_code 27 = .ok (.isub, 1) := by decide +kernel
theorem d_Penalty_balance_28 : decode prog_11_method_7_code 28 = .ok (.invokestatic 65, 3) := by decide +kernel
theorem d_Penalty_balance_31 : decode prog_11_method_7_code 31 = .ok (.iload_n 1, 1) := by decide +kernel
theorem d_Penalty_balance_32 : decode prog_11_method_7_code 32 = .ok (.idiv, 1) := by decide +kernel
theorem d_Penalty_balance_33 : decode prog_11_method_7_code 33 = .ok (.imul, 1) := by decide +kernel
theorem d_Penalty_balance_34 : decode prog_11_method_7_code 34 = .ok (.ireturn, 1) := by decide +kernel
abbrev y_Parser_init : MethodName := ⟨"SquareSymbols$Parser", "<init>", "(LSquareSymbols$Codewords;)V"⟩
abbrev w_Parser_init : List Cond := .code y_Parser_init prog_10_method_1_code 2 none :: lw_g
abbrev y_Parser_parse : MethodName := ⟨"SquareSymbols$Parser", "parse", "(ILSquareSymbols$Data;)I"⟩
abbrev w_Parser_parse : List Cond := .code y_Parser_parse prog_10_method_3_code 6 (some .int) :: lw_g
abbrev y_Parser_take : MethodName := ⟨"SquareSymbols$Parser", "take", "(I)I"⟩
abbrev w_Parser_take : List Cond := .code y_Parser_take prog_10_method_4_code 5 (some .int) :: lw_g
abbrev y_Parser_parseSegment : MethodName := ⟨"SquareSymbols$Parser", "parseSegment", "(I)I"⟩
abbrev w_Parser_parseSegment : List Cond := .code y_Parser_parseSegment prog_10_method_5_code 6 (some .int) :: lw_g
abbrev y_Parser_parseGroup : MethodName := ⟨"SquareSymbols$Parser", "parseGroup", "(II)I"⟩
abbrev w_Parser_parseGroup : List Cond := .code y_Parser_parseGroup prog_10_method_6_code 7 (some .int) :: lw_g
abbrev y_Parser_segments : MethodName := ⟨"SquareSymbols$Parser", "segments", "()I"⟩
abbrev w_Parser_segments : List Cond := .code y_Parser_segments prog_10_method_2_code 1 (some .int) :: lw_g
theorem d_Parser_init_0 : decode prog_10_method_1_code 0 = .ok (.aload_n 0, 1) := by decide +kernel
theorem d_Parser_init_1 : decode prog_10_method_1_code 1 = .ok (.invokespecial 3, 3) := by decide +kernel
theorem d_Parser_init_4 : decode prog_10_method_1_code 4 = .ok (.aload_n 0, 1) := by decide +kernel
theorem d_Parser_init_5 : decode prog_10_method_1_code 5 = .ok (.aload_n 1, 1) := by decide +kernel
theorem d_Parser_init_6 : decode prog_10_method_1_code 6 = .ok (.putfield 9, 3) := by decide +kernel
theorem d_Parser_init_9 : decode prog_10_method_1_code 9 = .ok (.return_, 1) := by decide +kernel
theorem d_Parser_parse_0 : decode prog_10_method_3_code 0 = .ok (.aload_n 0, 1) := by decide +kernel
theorem d_Parser_parse_1 : decode prog_10_method_3_code 1 = .ok (.iload_n 1, 1) := by decide +kernel
theorem d_Parser_parse_2 : decode prog_10_method_3_code 2 = .ok (.putfield 19, 3) := by decide +kernel
theorem d_Parser_parse_5 : decode prog_10_method_3_code 5 = .ok (.aload_n 0, 1) := by decide +kernel
theorem d_Parser_parse_6 : decode prog_10_method_3_code 6 = .ok (.aload_n 2, 1) := by decide +kernel
theorem d_Parser_parse_7 : decode prog_10_method_3_code 7 = .ok (.putfield 22, 3) := by decide +kernel
theorem d_Parser_parse_10 : decode prog_10_method_3_code 10 = .ok (.aload_n 0, 1) := by decide +kernel
theorem d_Parser_parse_11 : decode prog_10_method_3_code 11 = .ok (.iconst 0, 1) := by decide +kernel
theorem d_Parser_parse_12 : decode prog_10_method_3_code 12 = .ok (.putfield 26, 3) := by decide +kernel
theorem d_Parser_parse_15 : decode prog_10_method_3_code 15 = .ok (.aload_n 0, 1) := by decide +kernel
theorem d_Parser_parse_16 : decode prog_10_method_3_code 16 = .ok (.iconst 0, 1) := by decide +kernel
theorem d_Parser_parse_17 : decode prog_10_method_3_code 17 = .ok (.putfield 29, 3) := by decide +kernel
theorem d_Parser_parse_20 : decode prog_10_method_3_code 20 = .ok (.bipush 8, 2) := by decide +kernel
theorem d_Parser_parse_22 : decode prog_10_method_3_code 22 = .ok (.aload_n 0, 1) := by decide +kernel
theorem d_Parser_parse_23 : decode prog_10_method_3_code 23 = .ok (.getfield 9, 3) := by decide +kernel
theorem d_Parser_parse_26 : decode prog_10_method_3_code 26 = .ok (.invokevirtual 32, 3) := by decide +kernel
theorem d_Parser_parse_29 : decode prog_10_method_3_code 29 = .ok (.imul, 1) := by decide +kernel
theorem d_Parser_parse_30 : decode prog_10_method_3_code 30 = .ok (.istore_n 3, 1) := by decide +kernel
theorem d_Parser_parse_31 : decode prog_10_method_3_code 31 = .ok (.aload_n 0, 1) := by decide +kernel
theorem d_Parser_parse_32 : decode prog_10_method_3_code 32 = .ok (.iconst 0, 1) := by decide +kernel
theorem d_Parser_parse_33 : decode prog_10_method_3_code 33 = .ok (.putfield 15, 3) := by decide +kernel
theorem d_Parser_parse_36 : decode prog_10_method_3_code 36 = .ok (.aload_n 0, 1) := by decide +kernel
theorem d_Parser_parse_37 : decode prog_10_method_3_code 37 = .ok (.getfield 15, 3) := by decide +kernel
theorem d_Parser_parse_40 : decode prog_10_method_3_code 40 = .ok (.iload_n 3, 1) := by decide +kernel
theorem d_Parser_parse_41 : decode prog_10_method_3_code 41 = .ok (.if_icmp .ge 78, 3) := by decide +kernel
theorem d_Parser_parse_44 : decode prog_10_method_3_code 44 = .ok (.aload_n 0, 1) := by decide +kernel
theorem d_Parser_parse_45 : decode prog_10_method_3_code 45 = .ok (.getfield 26, 3) := by decide +kernel
theorem d_Parser_parse_48 : decode prog_10_method_3_code 48 = .ok (.iconst 4, 1) := by decide +kernel
theorem d_Parser_parse_49 : decode prog_10_method_3_code 49 = .ok (.iadd, 1) := by decide +kernel
theorem d_Parser_parse_50 : decode prog_10_method_3_code 50 = .ok (.iload_n 3, 1) := by decide +kernel
theorem d_Parser_parse_51 : decode prog_10_method_3_code 51 = .ok (.if_icmp .gt 68, 3) := by decide +kernel
theorem d_Parser_parse_54 : decode prog_10_method_3_code 54 = .ok (.aload_n 0, 1) := by decide +kernel
theorem d_Parser_parse_55 : decode prog_10_method_3_code 55 = .ok (.iconst 4, 1) := by decide +kernel
theorem d_Parser_parse_56 : decode prog_10_method_3_code 56 = .ok (.invokevirtual 38, 3) := by decide +kernel
theorem d_Parser_parse_59 : decode prog_10_method_3_code 59 = .ok (.istore 4, 2) := by decide +kernel
theorem d_Parser_parse_61 : decode prog_10_method_3_code 61 = .ok (.iload 4, 2) := by decide +kernel
theorem d_Parser_parse_63 : decode prog_10_method_3_code 63 = .ok (.ifCond .ne 5, 3) := by decide +kernel
theorem d_Parser_parse_66 : decode prog_10_method_3_code 66 = .ok (.iconst 0, 1) := by decide +kernel
theorem d_Parser_parse_67 : decode prog_10_method_3_code 67 = .ok (.ireturn, 1) := by decide +kernel
theorem d_Parser_parse_68 : decode prog_10_method_3_code 68 = .ok (.iload 4, 2) := by decide +kernel
theorem d_Parser_parse_70 : decode prog_10_method_3_code 70 = .ok (.iconst 1, 1) := by decide +kernel
theorem d_Parser_parse_71 : decode prog_10_method_3_code 71 = .ok (.if_icmp .eq 17, 3) := by decide +kernel
theorem d_Parser_parse_74 : decode prog_10_method_3_code 74 = .ok (.iload 4, 2) := by decide +kernel
theorem d_Parser_parse_76 : decode prog_10_method_3_code 76 = .ok (.iconst 2, 1) := by decide +kernel
theorem d_Parser_parse_77 : decode prog_10_method_3_code 77 = .ok (.if_icmp .eq 11, 3) := by decide +kernel
theorem d_Parser_parse_80 : decode prog_10_method_3_code 80 = .ok (.iload 4, 2) := by decide +kernel
theorem d_Parser_parse_82 : decode prog_10_method_3_code 82 = .ok (.iconst 4, 1) := by decide +kernel
theorem d_Parser_parse_83 : decode prog_10_method_3_code 83 = .ok (.if_icmp .eq 5, 3) := by decide +kernel
theorem d_Parser_parse_86 : decode prog_10_method_3_code 86 = .ok (.iconst 3, 1) := by decide +kernel
theorem d_Parser_parse_87 : decode prog_10_method_3_code 87 = .ok (.ireturn, 1) := by decide +kernel
theorem d_Parser_parse_88 : decode prog_10_method_3_code 88 = .ok (.aload_n 0, 1) := by decide +kernel
theorem d_Parser_parse_89 : decode prog_10_method_3_code 89 = .ok (.iload 4, 2) := by decide +kernel
theorem d_Parser_parse_91 : decode prog_10_method_3_code 91 = .ok (.iconst 1, 1) := by decide +kernel
theorem d_Parser_parse_92 : decode prog_10_method_3_code 92 = .ok (.ishr, 1) := by decide +kernel
theorem d_Parser_parse_93 : decode prog_10_method_3_code 93 = .ok (.invokevirtual 42, 3) := by decide +kernel
theorem d_Parser_parse_96 : decode prog_10_method_3_code 96 = .ok (.istore 5, 2) := by decide +kernel
theorem d_Parser_parse_98 : decode prog_10_method_3_code 98 = .ok (.iload 5, 2) := by decide +kernel
theorem d_Parser_parse_100 : decode prog_10_method_3_code 100 = .ok (.ifCond .eq 6, 3) := by decide +kernel
theorem d_Parser_parse_103 : decode prog_10_method_3_code 103 = .ok (.iload 5, 2) := by decide +kernel
theorem d_Parser_parse_105 : decode prog_10_method_3_code 105 = .ok (.ireturn, 1) := by decide +kernel
theorem d_Parser_parse_106 : decode prog_10_method_3_code 106 = .ok (.aload_n 0, 1) := by decide +kernel
theorem d_Parser_parse_107 : decode prog_10_method_3_code 107 = .ok (.dup, 1) := by decide +kernel
theorem d_Parser_parse_108 : decode prog_10_method_3_code 108 = .ok (.getfield 15, 3) := by decide +kernel
theorem d_Parser_parse_111 : decode prog_10_method_3_code 111 = .ok (.iconst 1, 1) := by decide +kernel
theorem d_Parser_parse_112 : decode prog_10_method_3_code 112 = .ok (.iadd, 1) := by decide +kernel
theorem d_Parser_parse_113 : decode prog_10_method_3_code 113 = .ok (.putfield 15, 3) := by decide +kernel
theorem d_Parser_parse_116 : decode prog_10_method_3_code 116 = .ok (.goto (-80), 3) := by decide +kernel
theorem d_Parser_parse_119 : decode prog_10_method_3_code 119 = .ok (.iconst 0, 1) := by decide +kernel
theorem d_Parser_parse_120 : decode prog_10_method_3_code 120 = .ok (.ireturn, 1) := by decide +kernel
theorem d_Parser_take_0 : decode prog_10_method_4_code 0 = .ok (.aload_n 0, 1) := by decide +kernel
theorem d_Parser_take_1 : decode prog_10_method_4_code 1 = .ok (.getfield 26, 3) := by decide +kernel
theorem d_Parser_take_4 : decode prog_10_method_4_code 4 = .ok (.iload_n 1, 1) := by decide +kernel
theorem d_Parser_take_5 : decode prog_10_method_4_code 5 = .ok (.iadd, 1) := by decide +kernel
theorem d_Parser_take_6 : decode prog_10_method_4_code 6 = .ok (.bipush 8, 2) := by decide +kernel
theorem d_Parser_take_8 : decode prog_10_method_4_code 8 = .ok (.aload_n 0, 1) := by decide +kernel
theorem d_Parser_take_9 : decode prog_10_method_4_code 9 = .ok (.getfield 9, 3) := by decide +kernel
theorem d_Parser_take_12 : decode prog_10_method_4_code 12 = .ok (.invokevirtual 32, 3) := by decide +kernel
theorem d_Parser_take_15 : decode prog_10_method_4_code 15 = .ok (.imul, 1) := by decide +kernel
theorem d_Parser_take_16 : decode prog_10_method_4_code 16 = .ok (.if_icmp .le 5, 3) := by decide +kernel
theorem d_Parser_take_19 : decode prog_10_method_4_code 19 = .ok (.iconst (-1), 1) := by decide +kernel
theorem d_Parser_take_20 : decode prog_10_method_4_code 20 = .ok (.ireturn, 1) := by decide +kernel
theorem d_Parser_take_21 : decode prog_10_method_4_code 21 = .ok (.aload_n 0, 1) := by decide +kernel
theorem d_Parser_take_22 : decode prog_10_method_4_code 22 = .ok (.getfield 26, 3) := by decide +kernel
theorem d_Parser_take_25 : decode prog_10_method_4_code 25 = .ok (.iconst 3, 1) := by decide +kernel
theorem d_Parser_take_26 : decode prog_10_method_4_code 26 = .ok (.ishr, 1) := by decide +kernel
theorem d_Parser_take_27 : decode prog_10_method_4_code 27 = .ok (.istore_n 2, 1) := by decide +kernel
theorem d_Parser_take_28 : decode prog_10_method_4_code 28 = .ok (.aload_n 0, 1) := by decide +kernel
theorem d_Parser_take_29 : decode prog_10_method_4_code 29 = .ok (.getfield 9, 3) := by decide +kernel
theorem d_Parser_take_32 : decode prog_10_method_4_code 32 = .ok (.iload_n 2, 1) := by decide +kernel
theorem d_Parser_take_33 : decode prog_10_method_4_code 33 = .ok (.invokevirtual 45, 3) := by decide +kernel
theorem d_Parser_take_36 : decode prog_10_method_4_code 36 = .ok (.bipush 16, 2) := by decide +kernel
theorem d_Parser_take_38 : decode prog_10_method_4_code 38 = .ok (.ishl, 1) := by decide +kernel
theorem d_Parser_take_39 : decode prog_10_method_4_code 39 = .ok (.aload_n 0, 1) := by decide +kernel
theorem d_Parser_take_40 : decode prog_10_method_4_code 40 = .ok (.getfield 9, 3) := by decide +kernel
theorem d_Parser_take_43 : decode prog_10_method_4_code 43 = .ok (.iload_n 2, 1) := by decide +kernel
theorem d_Parser_take_44 : decode prog_10_method_4_code 44 = .ok (.iconst 1, 1) := by decide +kernel
theorem d_Parser_take_45 : decode prog_10_method_4_code 45 = .ok (.iadd, 1) := by decide +kernel
theorem d_Parser_take_46 : decode prog_10_method_4_code 46 = .ok (.invokevirtual 45, 3) := by decide +kernel
theorem d_Parser_take_49 : decode prog_10_method_4_code 49 = .ok (.bipush 8, 2) := by decide +kernel
theorem d_Parser_take_51 : decode prog_10_method_4_code 51 = .ok (.ishl, 1) := by decide +kernel
theorem d_Parser_take_52 : decode prog_10_method_4_code 52 = .ok (.ior, 1) := by decide +kernel
theorem d_Parser_take_53 : decode prog_10_method_4_code 53 = .ok (.aload_n 0, 1) := by decide +kernel
theorem d_Parser_take_54 : decode prog_10_method_4_code 54 = .ok (.getfield 9, 3) := by decide +kernel
theorem d_Parser_take_57 : decode prog_10_method_4_code 57 = .ok (.iload_n 2, 1) := by decide +kernel
theorem d_Parser_take_58 : decode prog_10_method_4_code 58 = .ok (.iconst 2, 1) := by decide +kernel
theorem d_Parser_take_59 : decode prog_10_method_4_code 59 = .ok (.iadd, 1) := by decide +kernel
theorem d_Parser_take_60 : decode prog_10_method_4_code 60 = .ok (.invokevirtual 45, 3) := by decide +kernel
theorem d_Parser_take_63 : decode prog_10_method_4_code 63 = .ok (.ior, 1) := by decide +kernel
theorem d_Parser_take_64 : decode prog_10_method_4_code 64 = .ok (.istore_n 3, 1) := by decide +kernel
theorem d_Parser_take_65 : decode prog_10_method_4_code 65 = .ok (.bipush 24, 2) := by decide +kernel
theorem d_Parser_take_67 : decode prog_10_method_4_code 67 = .ok (.aload_n 0, 1) := by decide +kernel
theorem d_Parser_take_68 : decode prog_10_method_4_code 68 = .ok (.getfield 26, 3) := by decide +kernel
theorem d_Parser_take_71 : decode prog_10_method_4_code 71 = .ok (.bipush 7, 2) := by decide +kernel
theorem d_Parser_take_73 : decode prog_10_method_4_code 73 = .ok (.iand, 1) := by decide +kernel
theorem d_Parser_take_74 : decode prog_10_method_4_code 74 = .ok (.isub, 1) := by decide +kernel
theorem d_Parser_take_75 : decode prog_10_method_4_code 75 = .ok (.iload_n 1, 1) := by decide +kernel
theorem d_Parser_take_76 : decode prog_10_method_4_code 76 = .ok (.isub, 1) := by decide +kernel
theorem d_Parser_take_77 : decode prog_10_method_4_code 77 = .ok (.istore 4, 2) := by decide +kernel
theorem d_Parser_take_79 : decode prog_10_method_4_code 79 = .ok (.aload_n 0, 1) := by decide +kernel
theorem d_Parser_take_80 : decode prog_10_method_4_code 80 = .ok (.dup, 1) := by decide +kernel
theorem d_Parser_take_81 : decode prog_10_method_4_code 81 = .ok (.getfield 26, 3) := by decide +kernel
theorem d_Parser_take_84 : decode prog_10_method_4_code 84 = .ok (.iload_n 1, 1) := by decide +kernel
theorem d_Parser_take_85 : decode prog_10_method_4_code 85 = .ok (.iadd, 1) := by decide +kernel
theorem d_Parser_take_86 : decode prog_10_method_4_code 86 = .ok (.putfield 26, 3) := by decide +kernel
theorem d_Parser_take_89 : decode prog_10_method_4_code 89 = .ok (.iload_n 3, 1) := by decide +kernel
theorem d_Parser_take_90 : decode prog_10_method_4_code 90 = .ok (.iload 4, 2) := by decide +kernel
theorem d_Parser_take_92 : decode prog_10_method_4_code 92 = .ok (.ishr, 1) := by decide +kernel
theorem d_Parser_take_93 : decode prog_10_method_4_code 93 = .ok (.iconst 1, 1) := by decide +kernel
theorem d_Parser_take_94 : decode prog_10_method_4_code 94 = .ok (.iload_n 1, 1) := by decide +kernel
theorem d_Parser_take_95 : decode prog_10_method_4_code 95 = .ok (.ishl, 1) := by decide +kernel
theorem d_Parser_take_96 : decode prog_10_method_4_code 96 = .ok (.iconst 1, 1) := by decide +kernel
theorem d_Parser_take_97 : decode prog_10_method_4_code 97 = .ok (.isub, 1) := by decide +kernel
theorem d_Parser_take_98 : decode prog_10_method_4_code 98 = .ok (.iand, 1) := by decide +kernel
theorem d_Parser_take_99 : decode prog_10_method_4_code 99 = .ok (.ireturn, 1) := by decide +kernel
theorem d_Parser_parseSegment_0 : decode prog_10_method_5_code 0 = .ok (.aload_n 0, 1) := by decide +kernel
theorem d_Parser_parseSegment_1 : decode prog_10_method_5_code 1 = .ok (.iload_n 1, 1) := by decide +kernel
theorem d_Parser_parseSegment_2 : decode prog_10_method_5_code 2 = .ok (.aload_n 0, 1) := by decide +kernel
theorem d_Parser_parseSegment_3 : decode prog_10_method_5_code 3 = .ok (.getfield 19, 3) := by decide +kernel
theorem d_Parser_parseSegment_6 : decode prog_10_method_5_code 6 = .ok (.invokestatic 48, 3) := by decide +kernel
theorem d_Parser_parseSegment_9 : decode prog_10_method_5_code 9 = .ok (.invokevirtual 38, 3) := by decide +kernel
theorem d_Parser_parseSegment_12 : decode prog_10_method_5_code 12 = .ok (.istore_n 2, 1) := by decide +kernel
theorem d_Parser_parseSegment_13 : decode prog_10_method_5_code 13 = .ok (.iload_n 2, 1) := by decide +kernel
theorem d_Parser_parseSegment_14 : decode prog_10_method_5_code 14 = .ok (.iconst (-1), 1) := by decide +kernel
theorem d_Parser_parseSegment_15 : decode prog_10_method_5_code 15 = .ok (.if_icmp .ne 5, 3) := by decide +kernel
theorem d_Parser_parseSegment_18 : decode prog_10_method_5_code 18 = .ok (.iconst 4, 1) := by decide +kernel
theorem d_Parser_parseSegment_19 : decode prog_10_method_5_code 19 = .ok (.ireturn, 1) := by decide +kernel
theorem d_Parser_parseSegment_20 : decode prog_10_method_5_code 20 = .ok (.iload_n 2, 1) := by decide +kernel
theorem d_Parser_parseSegment_21 : decode prog_10_method_5_code 21 = .ok (.sipush 3000, 3) := by decide +kernel
theorem d_Parser_parseSegment_24 : decode prog_10_method_5_code 24 = .ok (.aload_n 0, 1) := by decide +kernel
theorem d_Parser_parseSegment_25 : decode prog_10_method_5_code 25 = .ok (.getfield 29, 3) := by decide +kernel
theorem d_Parser_parseSegment_28 : decode prog_10_method_5_code 28 = .ok (.isub, 1) := by decide +kernel
theorem d_Parser_parseSegment_29 : decode prog_10_method_5_code 29 = .ok (.if_icmp .le 6, 3) := by decide +kernel
theorem d_Parser_parseSegment_32 : decode prog_10_method_5_code 32 = .ok (.bipush 6, 2) := by decide +kernel
theorem d_Parser_parseSegment_34 : decode prog_10_method_5_code 34 = .ok (.ireturn, 1) := by decide +kernel
theorem d_Parser_parseSegment_35 : decode prog_10_method_5_code 35 = .ok (.aload_n 0, 1) := by decide +kernel
theorem d_Parser_parseSegment_36 : decode prog_10_method_5_code 36 = .ok (.dup, 1) := by decide +kernel
theorem d_Parser_parseSegment_37 : decode prog_10_method_5_code 37 = .ok (.getfield 29, 3) := by decide +kernel
theorem d_Parser_parseSegment_40 : decode prog_10_method_5_code 40 = .ok (.iload_n 2, 1) := by decide +kernel
theorem d_Parser_parseSegment_41 : decode prog_10_method_5_code 41 = .ok (.iadd, 1) := by decide +kernel
theorem d_Parser_parseSegment_42 : decode prog_10_method_5_code 42 = .ok (.putfield 29, 3) := by decide +kernel
theorem d_Parser_parseSegment_45 : decode prog_10_method_5_code 45 = .ok (.iconst 1, 1) := by decide +kernel
theorem d_Parser_parseSegment_46 : decode prog_10_method_5_code 46 = .ok (.iload_n 1, 1) := by decide +kernel
theorem d_Parser_parseSegment_47 : decode prog_10_method_5_code 47 = .ok (.invokestatic 54, 3) := by decide +kernel
theorem d_Parser_parseSegment_50 : decode prog_10_method_5_code 50 = .ok (.invokestatic 59, 3) := by decide +kernel
theorem d_Parser_parseSegment_53 : decode prog_10_method_5_code 53 = .ok (.istore_n 3, 1) := by decide +kernel
theorem d_Parser_parseSegment_54 : decode prog_10_method_5_code 54 = .ok (.iconst 0, 1) := by decide +kernel
theorem d_Parser_parseSegment_55 : decode prog_10_method_5_code 55 = .ok (.istore 4, 2) := by decide +kernel
theorem d_Parser_parseSegment_57 : decode prog_10_method_5_code 57 = .ok (.iload 4, 2) := by decide +kernel
theorem d_Parser_parseSegment_59 : decode prog_10_method_5_code 59 = .ok (.iload_n 2, 1) := by decide +kernel
theorem d_Parser_parseSegment_60 : decode prog_10_method_5_code 60 = .ok (.if_icmp .ge 35, 3) := by decide +kernel
theorem d_Parser_parseSegment_63 : decode prog_10_method_5_code 63 = .ok (.aload_n 0, 1) := by decide +kernel
theorem d_Parser_parseSegment_64 : decode prog_10_method_5_code 64 = .ok (.iload_n 1, 1) := by decide +kernel
theorem d_Parser_parseSegment_65 : decode prog_10_method_5_code 65 = .ok (.iload_n 3, 1) := by decide +kernel
theorem d_Parser_parseSegment_66 : decode prog_10_method_5_code 66 = .ok (.iload_n 2, 1) := by decide +kernel
theorem d_Parser_parseSegment_67 : decode prog_10_method_5_code 67 = .ok (.iload 4, 2) := by decide +kernel
theorem d_Parser_parseSegment_69 : decode prog_10_method_5_code 69 = .ok (.isub, 1) := by decide +kernel
theorem d_Parser_parseSegment_70 : decode prog_10_method_5_code 70 = .ok (.invokestatic 64, 3) := by decide +kernel
theorem d_Parser_parseSegment_73 : decode prog_10_method_5_code 73 = .ok (.invokevirtual 67, 3) := by decide +kernel
theorem d_Parser_parseSegment_76 : decode prog_10_method_5_code 76 = .ok (.istore 5, 2) := by decide +kernel
theorem d_Parser_parseSegment_78 : decode prog_10_method_5_code 78 = .ok (.iload 5, 2) := by decide +kernel
theorem d_Parser_parseSegment_80 : decode prog_10_method_5_code 80 = .ok (.ifCond .eq 6, 3) := by decide +kernel
theorem d_Parser_parseSegment_83 : decode prog_10_method_5_code 83 = .ok (.iload 5, 2) := by decide +kernel
theorem d_Parser_parseSegment_85 : decode prog_10_method_5_code 85 = .ok (.ireturn, 1) := by decide +kernel
theorem d_Parser_parseSegment_86 : decode prog_10_method_5_code 86 = .ok (.iload 4, 2) := by decide +kernel
theorem d_Parser_parseSegment_88 : decode prog_10_method_5_code 88 = .ok (.iload_n 3, 1) := by decide +kernel
theorem d_Parser_parseSegment_89 : decode prog_10_method_5_code 89 = .ok (.iadd, 1) := by decide +kernel
theorem d_Parser_parseSegment_90 : decode prog_10_method_5_code 90 = .ok (.istore 4, 2) := by decide +kernel
theorem d_Parser_parseSegment_92 : decode prog_10_method_5_code 92 = .ok (.goto (-35), 3) := by decide +kernel
theorem d_Parser_parseSegment_95 : decode prog_10_method_5_code 95 = .ok (.iconst 0, 1) := by decide +kernel
theorem d_Parser_parseSegment_96 : decode prog_10_method_5_code 96 = .ok (.ireturn, 1) := by decide +kernel
theorem d_Parser_parseGroup_0 : decode prog_10_method_6_code 0 = .ok (.aload_n 0, 1) := by decide +kernel
theorem d_Parser_parseGroup_1 : decode prog_10_method_6_code 1 = .ok (.iload_n 1, 1) := by decide +kernel
theorem d_Parser_parseGroup_2 : decode prog_10_method_6_code 2 = .ok (.iload_n 2, 1) := by decide +kernel
theorem d_Parser_parseGroup_3 : decode prog_10_method_6_code 3 = .ok (.invokestatic 70, 3) := by decide +kernel
theorem d_Parser_parseGroup_6 : decode prog_10_method_6_code 6 = .ok (.invokevirtual 38, 3) := by decide +kernel
theorem d_Parser_parseGroup_9 : decode prog_10_method_6_code 9 = .ok (.istore_n 3, 1) := by decide +kernel
theorem d_Parser_parseGroup_10 : decode prog_10_method_6_code 10 = .ok (.iload_n 3, 1) := by decide +kernel
theorem d_Parser_parseGroup_11 : decode prog_10_method_6_code 11 = .ok (.iconst (-1), 1) := by decide +kernel
theorem d_Parser_parseGroup_12 : decode prog_10_method_6_code 12 = .ok (.if_icmp .ne 5, 3) := by decide +kernel
theorem d_Parser_parseGroup_15 : decode prog_10_method_6_code 15 = .ok (.iconst 4, 1) := by decide +kernel
theorem d_Parser_parseGroup_16 : decode prog_10_method_6_code 16 = .ok (.ireturn, 1) := by decide +kernel
theorem d_Parser_parseGroup_17 : decode prog_10_method_6_code 17 = .ok (.iload_n 1, 1) := by decide +kernel
theorem d_Parser_parseGroup_18 : decode prog_10_method_6_code 18 = .ok (.iload_n 2, 1) := by decide +kernel
theorem d_Parser_parseGroup_19 : decode prog_10_method_6_code 19 = .ok (.invokestatic 73, 3) := by decide +kernel
theorem d_Parser_parseGroup_22 : decode prog_10_method_6_code 22 = .ok (.istore 4, 2) := by decide +kernel
theorem d_Parser_parseGroup_24 : decode prog_10_method_6_code 24 = .ok (.iload_n 3, 1) := by decide +kernel
theorem d_Parser_parseGroup_25 : decode prog_10_method_6_code 25 = .ok (.iload 4, 2) := by decide +kernel
theorem d_Parser_parseGroup_27 : decode prog_10_method_6_code 27 = .ok (.if_icmp .lt 5, 3) := by decide +kernel
theorem d_Parser_parseGroup_30 : decode prog_10_method_6_code 30 = .ok (.iconst 5, 1) := by decide +kernel
theorem d_Parser_parseGroup_31 : decode prog_10_method_6_code 31 = .ok (.ireturn, 1) := by decide +kernel
theorem d_Parser_parseGroup_32 : decode prog_10_method_6_code 32 = .ok (.iconst 1, 1) := by decide +kernel
theorem d_Parser_parseGroup_33 : decode prog_10_method_6_code 33 = .ok (.iload_n 1, 1) := by decide +kernel
theorem d_Parser_parseGroup_34 : decode prog_10_method_6_code 34 = .ok (.invokestatic 76, 3) := by decide +kernel
theorem d_Parser_parseGroup_37 : decode prog_10_method_6_code 37 = .ok (.invokestatic 59, 3) := by decide +kernel
theorem d_Parser_parseGroup_40 : decode prog_10_method_6_code 40 = .ok (.istore 5, 2) := by decide +kernel
theorem d_Parser_parseGroup_42 : decode prog_10_method_6_code 42 = .ok (.iconst 0, 1) := by decide +kernel
theorem d_Parser_parseGroup_43 : decode prog_10_method_6_code 43 = .ok (.istore 6, 2) := by decide +kernel
theorem d_Parser_parseGroup_45 : decode prog_10_method_6_code 45 = .ok (.iload 6, 2) := by decide +kernel
theorem d_Parser_parseGroup_47 : decode prog_10_method_6_code 47 = .ok (.iload_n 2, 1) := by decide +kernel
theorem d_Parser_parseGroup_48 : decode prog_10_method_6_code 48 = .ok (.if_icmp .ge 45, 3) := by decide +kernel
theorem d_Parser_parseGroup_51 : decode prog_10_method_6_code 51 = .ok (.aload_n 0, 1) := by decide +kernel
theorem d_Parser_parseGroup_52 : decode prog_10_method_6_code 52 = .ok (.getfield 22, 3) := by decide +kernel
theorem d_Parser_parseGroup_55 : decode prog_10_method_6_code 55 = .ok (.ifnull 38, 3) := by decide +kernel
theorem d_Parser_parseGroup_58 : decode prog_10_method_6_code 58 = .ok (.iconst 1, 1) := by decide +kernel
theorem d_Parser_parseGroup_59 : decode prog_10_method_6_code 59 = .ok (.iload 4, 2) := by decide +kernel
theorem d_Parser_parseGroup_61 : decode prog_10_method_6_code 61 = .ok (.iload 5, 2) := by decide +kernel
theorem d_Parser_parseGroup_63 : decode prog_10_method_6_code 63 = .ok (.idiv, 1) := by decide +kernel
theorem d_Parser_parseGroup_64 : decode prog_10_method_6_code 64 = .ok (.invokestatic 59, 3) := by decide +kernel
theorem d_Parser_parseGroup_67 : decode prog_10_method_6_code 67 = .ok (.istore 4, 2) := by decide +kernel
theorem d_Parser_parseGroup_69 : decode prog_10_method_6_code 69 = .ok (.aload_n 0, 1) := by decide +kernel
theorem d_Parser_parseGroup_70 : decode prog_10_method_6_code 70 = .ok (.getfield 22, 3) := by decide +kernel
theorem d_Parser_parseGroup_73 : decode prog_10_method_6_code 73 = .ok (.iload_n 1, 1) := by decide +kernel
theorem d_Parser_parseGroup_74 : decode prog_10_method_6_code 74 = .ok (.iload_n 3, 1) := by decide +kernel
theorem d_Parser_parseGroup_75 : decode prog_10_method_6_code 75 = .ok (.iload 4, 2) := by decide +kernel
theorem d_Parser_parseGroup_77 : decode prog_10_method_6_code 77 = .ok (.idiv, 1) := by decide +kernel
theorem d_Parser_parseGroup_78 : decode prog_10_method_6_code 78 = .ok (.iload 5, 2) := by decide +kernel
theorem d_Parser_parseGroup_80 : decode prog_10_method_6_code 80 = .ok (.irem, 1) := by decide +kernel
theorem d_Parser_parseGroup_81 : decode prog_10_method_6_code 81 = .ok (.invokestatic 79, 3) := by decide +kernel
theorem d_Parser_parseGroup_84 : decode prog_10_method_6_code 84 = .ok (.invokevirtual 82, 3) := by decide +kernel
theorem d_Parser_parseGroup_87 : decode prog_10_method_6_code 87 = .ok (.iinc 6 1, 3) := by decide +kernel
theorem d_Parser_parseGroup_90 : decode prog_10_method_6_code 90 = .ok (.goto (-45), 3) := by decide +kernel
theorem d_Parser_parseGroup_93 : decode prog_10_method_6_code 93 = .ok (.iconst 0, 1) := by decide +kernel
theorem d_Parser_parseGroup_94 : decode prog_10_method_6_code 94 = .ok (.ireturn, 1) := by decide +kernel
theorem d_Parser_segments_0 : decode prog_10_method_2_code 0 = .ok (.aload_n 0, 1) := by decide +kernel
theorem d_Parser_segments_1 : decode prog_10_method_2_code 1 = .ok (.getfield 15, 3) := by decide +kernel
theorem d_Parser_segments_4 : decode prog_10_method_2_code 4 = .ok (.ireturn, 1) := by decide +kernel
