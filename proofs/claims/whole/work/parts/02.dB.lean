abbrev y_Version_ofSide : MethodName := ⟨"SquareSymbols$Version", "ofSide", "(I)I"⟩
abbrev w_Version_ofSide : List Cond := .code y_Version_ofSide prog_12_method_3_code 1 (some .int) :: lw_g
abbrev y_Version_codewords : MethodName := ⟨"SquareSymbols$Version", "codewords", "(I)I"⟩
abbrev w_Version_codewords : List Cond := .code y_Version_codewords prog_12_method_6_code 3 (some .int) :: lw_g
abbrev y_Version_holds : MethodName := ⟨"SquareSymbols$Version", "holds", "(II)I"⟩
abbrev w_Version_holds : List Cond := .code y_Version_holds prog_12_method_9_code 2 (some .int) :: lw_g
abbrev y_Version_blocks : MethodName := ⟨"SquareSymbols$Version", "blocks", "(II)I"⟩
abbrev w_Version_blocks : List Cond := .code y_Version_blocks prog_12_method_8_code 2 (some .int) :: lw_g
abbrev y_Version_checks : MethodName := ⟨"SquareSymbols$Version", "checks", "(II)I"⟩
abbrev w_Version_checks : List Cond := .code y_Version_checks prog_12_method_7_code 2 (some .int) :: lw_g
abbrev y_Version_side : MethodName := ⟨"SquareSymbols$Version", "side", "(I)I"⟩
abbrev w_Version_side : List Cond := .code y_Version_side prog_12_method_2_code 1 (some .int) :: lw_g
abbrev y_Version_mendable : MethodName := ⟨"SquareSymbols$Version", "mendable", "(II)I"⟩
abbrev w_Version_mendable : List Cond := .code y_Version_mendable prog_12_method_10_code 3 (some .int) :: lw_g
abbrev y_Version_countBits : MethodName := ⟨"SquareSymbols$Version", "countBits", "(II)I"⟩
abbrev w_Version_countBits : List Cond := .code y_Version_countBits prog_12_method_5_code 2 (some .int) :: lw_g
abbrev y_Version_span : MethodName := ⟨"SquareSymbols$Version", "span", "(I)I"⟩
abbrev w_Version_span : List Cond := .code y_Version_span prog_12_method_4_code 1 (some .int) :: lw_g
theorem d_Version_ofSide_0 : decode prog_12_method_3_code 0 = .ok (.iload_n 0, 1) := by decide +kernel
theorem d_Version_ofSide_1 : decode prog_12_method_3_code 1 = .ok (.bipush 17, 2) := by decide +kernel
theorem d_Version_ofSide_3 : decode prog_12_method_3_code 3 = .ok (.isub, 1) := by decide +kernel
theorem d_Version_ofSide_4 : decode prog_12_method_3_code 4 = .ok (.iconst 4, 1) := by decide +kernel
theorem d_Version_ofSide_5 : decode prog_12_method_3_code 5 = .ok (.idiv, 1) := by decide +kernel
theorem d_Version_ofSide_6 : decode prog_12_method_3_code 6 = .ok (.ireturn, 1) := by decide +kernel
theorem d_Version_codewords_0 : decode prog_12_method_6_code 0 = .ok (.bipush 16, 2) := by decide +kernel
theorem d_Version_codewords_2 : decode prog_12_method_6_code 2 = .ok (.iload_n 0, 1) := by decide +kernel
theorem d_Version_codewords_3 : decode prog_12_method_6_code 3 = .ok (.imul, 1) := by decide +kernel
theorem d_Version_codewords_4 : decode prog_12_method_6_code 4 = .ok (.sipush 128, 3) := by decide +kernel
theorem d_Version_codewords_7 : decode prog_12_method_6_code 7 = .ok (.iadd, 1) := by decide +kernel
theorem d_Version_codewords_8 : decode prog_12_method_6_code 8 = .ok (.iload_n 0, 1) := by decide +kernel
theorem d_Version_codewords_9 : decode prog_12_method_6_code 9 = .ok (.imul, 1) := by decide +kernel
theorem d_Version_codewords_10 : decode prog_12_method_6_code 10 = .ok (.bipush 64, 2) := by decide +kernel
theorem d_Version_codewords_12 : decode prog_12_method_6_code 12 = .ok (.iadd, 1) := by decide +kernel
theorem d_Version_codewords_13 : decode prog_12_method_6_code 13 = .ok (.istore_n 1, 1) := by decide +kernel
theorem d_Version_codewords_14 : decode prog_12_method_6_code 14 = .ok (.iload_n 0, 1) := by decide +kernel
theorem d_Version_codewords_15 : decode prog_12_method_6_code 15 = .ok (.iconst 1, 1) := by decide +kernel
theorem d_Version_codewords_16 : decode prog_12_method_6_code 16 = .ok (.if_icmp .le 25, 3) := by decide +kernel
theorem d_Version_codewords_19 : decode prog_12_method_6_code 19 = .ok (.iload_n 0, 1) := by decide +kernel
theorem d_Version_codewords_20 : decode prog_12_method_6_code 20 = .ok (.bipush 7, 2) := by decide +kernel
theorem d_Version_codewords_22 : decode prog_12_method_6_code 22 = .ok (.idiv, 1) := by decide +kernel
theorem d_Version_codewords_23 : decode prog_12_method_6_code 23 = .ok (.iconst 2, 1) := by decide +kernel
theorem d_Version_codewords_24 : decode prog_12_method_6_code 24 = .ok (.iadd, 1) := by decide +kernel
theorem d_Version_codewords_25 : decode prog_12_method_6_code 25 = .ok (.istore_n 2, 1) := by decide +kernel
theorem d_Version_codewords_26 : decode prog_12_method_6_code 26 = .ok (.iload_n 1, 1) := by decide +kernel
theorem d_Version_codewords_27 : decode prog_12_method_6_code 27 = .ok (.bipush 25, 2) := by decide +kernel
theorem d_Version_codewords_29 : decode prog_12_method_6_code 29 = .ok (.iload_n 2, 1) := by decide +kernel
theorem d_Version_codewords_30 : decode prog_12_method_6_code 30 = .ok (.imul, 1) := by decide +kernel
theorem d_Version_codewords_31 : decode prog_12_method_6_code 31 = .ok (.bipush 10, 2) := by decide +kernel
theorem d_Version_codewords_33 : decode prog_12_method_6_code 33 = .ok (.isub, 1) := by decide +kernel
theorem d_Version_codewords_34 : decode prog_12_method_6_code 34 = .ok (.iload_n 2, 1) := by decide +kernel
theorem d_Version_codewords_35 : decode prog_12_method_6_code 35 = .ok (.imul, 1) := by decide +kernel
theorem d_Version_codewords_36 : decode prog_12_method_6_code 36 = .ok (.bipush 55, 2) := by decide +kernel
theorem d_Version_codewords_38 : decode prog_12_method_6_code 38 = .ok (.isub, 1) := by decide +kernel
theorem d_Version_codewords_39 : decode prog_12_method_6_code 39 = .ok (.isub, 1) := by decide +kernel
theorem d_Version_codewords_40 : decode prog_12_method_6_code 40 = .ok (.istore_n 1, 1) := by decide +kernel
theorem d_Version_codewords_41 : decode prog_12_method_6_code 41 = .ok (.iload_n 0, 1) := by decide +kernel
theorem d_Version_codewords_42 : decode prog_12_method_6_code 42 = .ok (.bipush 6, 2) := by decide +kernel
theorem d_Version_codewords_44 : decode prog_12_method_6_code 44 = .ok (.if_icmp .le 10, 3) := by decide +kernel
theorem d_Version_codewords_47 : decode prog_12_method_6_code 47 = .ok (.iload_n 1, 1) := by decide +kernel
theorem d_Version_codewords_48 : decode prog_12_method_6_code 48 = .ok (.bipush 36, 2) := by decide +kernel
theorem d_Version_codewords_50 : decode prog_12_method_6_code 50 = .ok (.isub, 1) := by decide +kernel
theorem d_Version_codewords_51 : decode prog_12_method_6_code 51 = .ok (.goto 4, 3) := by decide +kernel
theorem d_Version_codewords_54 : decode prog_12_method_6_code 54 = .ok (.iload_n 1, 1) := by decide +kernel
theorem d_Version_codewords_55 : decode prog_12_method_6_code 55 = .ok (.bipush 8, 2) := by decide +kernel
theorem d_Version_codewords_57 : decode prog_12_method_6_code 57 = .ok (.idiv, 1) := by decide +kernel
theorem d_Version_codewords_58 : decode prog_12_method_6_code 58 = .ok (.ireturn, 1) := by decide +kernel
theorem d_Version_holds_0 : decode prog_12_method_9_code 0 = .ok (.iload_n 1, 1) := by decide +kernel
theorem d_Version_holds_1 : decode prog_12_method_9_code 1 = .ok (.invokestatic 35, 3) := by decide +kernel
theorem d_Version_holds_4 : decode prog_12_method_9_code 4 = .ok (.iload_n 0, 1) := by decide +kernel
theorem d_Version_holds_5 : decode prog_12_method_9_code 5 = .ok (.iload_n 1, 1) := by decide +kernel
theorem d_Version_holds_6 : decode prog_12_method_9_code 6 = .ok (.invokestatic 38, 3) := by decide +kernel
theorem d_Version_holds_9 : decode prog_12_method_9_code 9 = .ok (.iload_n 0, 1) := by decide +kernel
theorem d_Version_holds_10 : decode prog_12_method_9_code 10 = .ok (.iload_n 1, 1) := by decide +kernel
theorem d_Version_holds_11 : decode prog_12_method_9_code 11 = .ok (.invokestatic 41, 3) := by decide +kernel
theorem d_Version_holds_14 : decode prog_12_method_9_code 14 = .ok (.imul, 1) := by decide +kernel
theorem d_Version_holds_15 : decode prog_12_method_9_code 15 = .ok (.isub, 1) := by decide +kernel
theorem d_Version_holds_16 : decode prog_12_method_9_code 16 = .ok (.ireturn, 1) := by decide +kernel
theorem d_Version_blocks_0 : decode prog_12_method_8_code 0 = .ok (.iconst 1, 1) := by decide +kernel
theorem d_Version_blocks_1 : decode prog_12_method_8_code 1 = .ok (.getstatic 26, 3) := by decide +kernel
theorem d_Version_blocks_4 : decode prog_12_method_8_code 4 = .ok (.bipush 40, 2) := by decide +kernel
theorem d_Version_blocks_6 : decode prog_12_method_8_code 6 = .ok (.iload_n 0, 1) := by decide +kernel
theorem d_Version_blocks_7 : decode prog_12_method_8_code 7 = .ok (.imul, 1) := by decide +kernel
theorem d_Version_blocks_8 : decode prog_12_method_8_code 8 = .ok (.iload_n 1, 1) := by decide +kernel
theorem d_Version_blocks_9 : decode prog_12_method_8_code 9 = .ok (.iadd, 1) := by decide +kernel
theorem d_Version_blocks_10 : decode prog_12_method_8_code 10 = .ok (.iconst 1, 1) := by decide +kernel
theorem d_Version_blocks_11 : decode prog_12_method_8_code 11 = .ok (.isub, 1) := by decide +kernel
theorem d_Version_blocks_12 : decode prog_12_method_8_code 12 = .ok (.invokestatic 19, 3) := by decide +kernel
theorem d_Version_blocks_15 : decode prog_12_method_8_code 15 = .ok (.invokestatic 29, 3) := by decide +kernel
theorem d_Version_blocks_18 : decode prog_12_method_8_code 18 = .ok (.ireturn, 1) := by decide +kernel
theorem d_Version_checks_0 : decode prog_12_method_7_code 0 = .ok (.getstatic 23, 3) := by decide +kernel
theorem d_Version_checks_3 : decode prog_12_method_7_code 3 = .ok (.bipush 40, 2) := by decide +kernel
theorem d_Version_checks_5 : decode prog_12_method_7_code 5 = .ok (.iload_n 0, 1) := by decide +kernel
theorem d_Version_checks_6 : decode prog_12_method_7_code 6 = .ok (.imul, 1) := by decide +kernel
theorem d_Version_checks_7 : decode prog_12_method_7_code 7 = .ok (.iload_n 1, 1) := by decide +kernel
theorem d_Version_checks_8 : decode prog_12_method_7_code 8 = .ok (.iadd, 1) := by decide +kernel
theorem d_Version_checks_9 : decode prog_12_method_7_code 9 = .ok (.iconst 1, 1) := by decide +kernel
theorem d_Version_checks_10 : decode prog_12_method_7_code 10 = .ok (.isub, 1) := by decide +kernel
theorem d_Version_checks_11 : decode prog_12_method_7_code 11 = .ok (.invokestatic 19, 3) := by decide +kernel
theorem d_Version_checks_14 : decode prog_12_method_7_code 14 = .ok (.ireturn, 1) := by decide +kernel
theorem d_Version_side_0 : decode prog_12_method_2_code 0 = .ok (.bipush 17, 2) := by decide +kernel
theorem d_Version_side_2 : decode prog_12_method_2_code 2 = .ok (.iconst 4, 1) := by decide +kernel
theorem d_Version_side_3 : decode prog_12_method_2_code 3 = .ok (.iload_n 0, 1) := by decide +kernel
theorem d_Version_side_4 : decode prog_12_method_2_code 4 = .ok (.imul, 1) := by decide +kernel
theorem d_Version_side_5 : decode prog_12_method_2_code 5 = .ok (.iadd, 1) := by decide +kernel
theorem d_Version_side_6 : decode prog_12_method_2_code 6 = .ok (.ireturn, 1) := by decide +kernel
theorem d_Version_mendable_0 : decode prog_12_method_10_code 0 = .ok (.iconst 0, 1) := by decide +kernel
theorem d_Version_mendable_1 : decode prog_12_method_10_code 1 = .ok (.istore_n 2, 1) := by decide +kernel
theorem d_Version_mendable_2 : decode prog_12_method_10_code 2 = .ok (.iload_n 1, 1) := by decide +kernel
theorem d_Version_mendable_3 : decode prog_12_method_10_code 3 = .ok (.iconst 1, 1) := by decide +kernel
theorem d_Version_mendable_4 : decode prog_12_method_10_code 4 = .ok (.if_icmp .ne 14, 3) := by decide +kernel
theorem d_Version_mendable_7 : decode prog_12_method_10_code 7 = .ok (.iconst 1, 1) := by decide +kernel
theorem d_Version_mendable_8 : decode prog_12_method_10_code 8 = .ok (.iconst 3, 1) := by decide +kernel
theorem d_Version_mendable_9 : decode prog_12_method_10_code 9 = .ok (.iload_n 0, 1) := by decide +kernel
theorem d_Version_mendable_10 : decode prog_12_method_10_code 10 = .ok (.isub, 1) := by decide +kernel
theorem d_Version_mendable_11 : decode prog_12_method_10_code 11 = .ok (.invokestatic 29, 3) := by decide +kernel
theorem d_Version_mendable_14 : decode prog_12_method_10_code 14 = .ok (.istore_n 2, 1) := by decide +kernel
theorem d_Version_mendable_15 : decode prog_12_method_10_code 15 = .ok (.goto 16, 3) := by decide +kernel
theorem d_Version_mendable_18 : decode prog_12_method_10_code 18 = .ok (.iload_n 0, 1) := by decide +kernel
theorem d_Version_mendable_19 : decode prog_12_method_10_code 19 = .ok (.ifCond .ne 12, 3) := by decide +kernel
theorem d_Version_mendable_22 : decode prog_12_method_10_code 22 = .ok (.iload_n 1, 1) := by decide +kernel
theorem d_Version_mendable_23 : decode prog_12_method_10_code 23 = .ok (.iconst 3, 1) := by decide +kernel
theorem d_Version_mendable_24 : decode prog_12_method_10_code 24 = .ok (.if_icmp .gt 7, 3) := by decide +kernel
theorem d_Version_mendable_27 : decode prog_12_method_10_code 27 = .ok (.iconst 4, 1) := by decide +kernel
theorem d_Version_mendable_28 : decode prog_12_method_10_code 28 = .ok (.iload_n 1, 1) := by decide +kernel
theorem d_Version_mendable_29 : decode prog_12_method_10_code 29 = .ok (.isub, 1) := by decide +kernel
theorem d_Version_mendable_30 : decode prog_12_method_10_code 30 = .ok (.istore_n 2, 1) := by decide +kernel
theorem d_Version_mendable_31 : decode prog_12_method_10_code 31 = .ok (.iload_n 0, 1) := by decide +kernel
theorem d_Version_mendable_32 : decode prog_12_method_10_code 32 = .ok (.iload_n 1, 1) := by decide +kernel
theorem d_Version_mendable_33 : decode prog_12_method_10_code 33 = .ok (.invokestatic 41, 3) := by decide +kernel
theorem d_Version_mendable_36 : decode prog_12_method_10_code 36 = .ok (.iload_n 2, 1) := by decide +kernel
theorem d_Version_mendable_37 : decode prog_12_method_10_code 37 = .ok (.isub, 1) := by decide +kernel
theorem d_Version_mendable_38 : decode prog_12_method_10_code 38 = .ok (.iconst 2, 1) := by decide +kernel
theorem d_Version_mendable_39 : decode prog_12_method_10_code 39 = .ok (.idiv, 1) := by decide +kernel
theorem d_Version_mendable_40 : decode prog_12_method_10_code 40 = .ok (.ireturn, 1) := by decide +kernel
theorem d_Version_countBits_0 : decode prog_12_method_5_code 0 = .ok (.getstatic 9, 3) := by decide +kernel
theorem d_Version_countBits_3 : decode prog_12_method_5_code 3 = .ok (.iconst 3, 1) := by decide +kernel
theorem d_Version_countBits_4 : decode prog_12_method_5_code 4 = .ok (.iload_n 0, 1) := by decide +kernel
theorem d_Version_countBits_5 : decode prog_12_method_5_code 5 = .ok (.imul, 1) := by decide +kernel
theorem d_Version_countBits_6 : decode prog_12_method_5_code 6 = .ok (.iload_n 1, 1) := by decide +kernel
theorem d_Version_countBits_7 : decode prog_12_method_5_code 7 = .ok (.invokestatic 15, 3) := by decide +kernel
theorem d_Version_countBits_10 : decode prog_12_method_5_code 10 = .ok (.iadd, 1) := by decide +kernel
theorem d_Version_countBits_11 : decode prog_12_method_5_code 11 = .ok (.invokestatic 19, 3) := by decide +kernel
theorem d_Version_countBits_14 : decode prog_12_method_5_code 14 = .ok (.ireturn, 1) := by decide +kernel
theorem d_Version_span_0 : decode prog_12_method_4_code 0 = .ok (.iload_n 0, 1) := by decide +kernel
theorem d_Version_span_1 : decode prog_12_method_4_code 1 = .ok (.bipush 9, 2) := by decide +kernel
theorem d_Version_span_3 : decode prog_12_method_4_code 3 = .ok (.if_icmp .gt 7, 3) := by decide +kernel
theorem d_Version_span_6 : decode prog_12_method_4_code 6 = .ok (.iconst 0, 1) := by decide +kernel
theorem d_Version_span_7 : decode prog_12_method_4_code 7 = .ok (.goto 14, 3) := by decide +kernel
theorem d_Version_span_10 : decode prog_12_method_4_code 10 = .ok (.iload_n 0, 1) := by decide +kernel
theorem d_Version_span_11 : decode prog_12_method_4_code 11 = .ok (.bipush 26, 2) := by decide +kernel
theorem d_Version_span_13 : decode prog_12_method_4_code 13 = .ok (.if_icmp .gt 7, 3) := by decide +kernel
theorem d_Version_span_16 : decode prog_12_method_4_code 16 = .ok (.iconst 1, 1) := by decide +kernel
theorem d_Version_span_17 : decode prog_12_method_4_code 17 = .ok (.goto 4, 3) := by decide +kernel
theorem d_Version_span_20 : decode prog_12_method_4_code 20 = .ok (.iconst 2, 1) := by decide +kernel
theorem d_Version_span_21 : decode prog_12_method_4_code 21 = .ok (.ireturn, 1) := by decide +kernel
abbrev y_Codewords_init : MethodName := ⟨"SquareSymbols$Codewords", "<init>", "(LSquareSymbols$Field;)V"⟩
abbrev w_Codewords_init : List Cond := .code y_Codewords_init prog_2_method_1_code 2 none :: lw_g
abbrev y_Codewords_begin : MethodName := ⟨"SquareSymbols$Codewords", "begin", "(II)V"⟩
abbrev w_Codewords_begin : List Cond := .code y_Codewords_begin prog_2_method_2_code 3 none :: lw_g
abbrev y_Codewords_total : MethodName := ⟨"SquareSymbols$Codewords", "total", "()I"⟩
abbrev w_Codewords_total : List Cond := .code y_Codewords_total prog_2_method_3_code 1 (some .int) :: lw_g
abbrev y_Codewords_placeInOrder : MethodName := ⟨"SquareSymbols$Codewords", "placeInOrder", "(I)I"⟩
abbrev w_Codewords_placeInOrder : List Cond := .code y_Codewords_placeInOrder prog_2_method_12_code 4 (some .int) :: lw_g
abbrev y_Codewords_placeInBlock : MethodName := ⟨"SquareSymbols$Codewords", "placeInBlock", "(II)I"⟩
abbrev w_Codewords_placeInBlock : List Cond := .code y_Codewords_placeInBlock prog_2_method_11_code 4 (some .int) :: lw_g
abbrev y_Codewords_length : MethodName := ⟨"SquareSymbols$Codewords", "length", "(I)I"⟩
abbrev w_Codewords_length : List Cond := .code y_Codewords_length prog_2_method_9_code 2 (some .int) :: lw_g
abbrev y_Codewords_start : MethodName := ⟨"SquareSymbols$Codewords", "start", "(I)I"⟩
abbrev w_Codewords_start : List Cond := .code y_Codewords_start prog_2_method_10_code 2 (some .int) :: lw_g
abbrev y_Codewords_set : MethodName := ⟨"SquareSymbols$Codewords", "set", "(II)V"⟩
abbrev w_Codewords_set : List Cond := .code y_Codewords_set prog_2_method_8_code 3 none :: lw_g
abbrev y_Codewords_blocks : MethodName := ⟨"SquareSymbols$Codewords", "blocks", "()I"⟩
abbrev w_Codewords_blocks : List Cond := .code y_Codewords_blocks prog_2_method_5_code 1 (some .int) :: lw_g
abbrev y_Codewords_checks : MethodName := ⟨"SquareSymbols$Codewords", "checks", "()I"⟩
abbrev w_Codewords_checks : List Cond := .code y_Codewords_checks prog_2_method_6_code 1 (some .int) :: lw_g
abbrev y_Codewords_get : MethodName := ⟨"SquareSymbols$Codewords", "get", "(I)I"⟩
abbrev w_Codewords_get : List Cond := .code y_Codewords_get prog_2_method_7_code 2 (some .int) :: lw_g
abbrev y_Codewords_holds : MethodName := ⟨"SquareSymbols$Codewords", "holds", "()I"⟩
abbrev w_Codewords_holds : List Cond := .code y_Codewords_holds prog_2_method_4_code 1 (some .int) :: lw_g
abbrev y_Codewords_appendSegment : MethodName := ⟨"SquareSymbols$Codewords", "appendSegment", "(LSquareSymbols$Data;III)V"⟩
abbrev w_Codewords_appendSegment : List Cond := .code y_Codewords_appendSegment prog_2_method_13_code 11 none :: lw_g
abbrev y_Codewords_appendBits : MethodName := ⟨"SquareSymbols$Codewords", "appendBits", "(II)V"⟩
abbrev w_Codewords_appendBits : List Cond := .code y_Codewords_appendBits prog_2_method_14_code 3 none :: lw_g
abbrev y_Codewords_fillUp : MethodName := ⟨"SquareSymbols$Codewords", "fillUp", "()V"⟩
abbrev w_Codewords_fillUp : List Cond := .code y_Codewords_fillUp prog_2_method_15_code 3 none :: lw_g
abbrev y_Codewords_addChecks : MethodName := ⟨"SquareSymbols$Codewords", "addChecks", "()V"⟩
abbrev w_Codewords_addChecks : List Cond := .code y_Codewords_addChecks prog_2_method_16_code 2 none :: lw_g
abbrev y_Codewords_prepareGenerator : MethodName := ⟨"SquareSymbols$Codewords", "prepareGenerator", "()V"⟩
abbrev w_Codewords_prepareGenerator : List Cond := .code y_Codewords_prepareGenerator prog_2_method_17_code 3 none :: lw_g
abbrev y_Codewords_addChecksOf : MethodName := ⟨"SquareSymbols$Codewords", "addChecksOf", "(I)V"⟩
abbrev w_Codewords_addChecksOf : List Cond := .code y_Codewords_addChecksOf prog_2_method_18_code 6 none :: lw_g
theorem d_Codewords_init_0 : decode prog_2_method_1_code 0 = .ok (.aload_n 0, 1) := by decide +kernel
theorem d_Codewords_init_1 : decode prog_2_method_1_code 1 = .ok (.invokespecial 1, 3) := by decide +kernel
theorem d_Codewords_init_4 : decode prog_2_method_1_code 4 = .ok (.aload_n 0, 1) := by decide +kernel
theorem d_Codewords_init_5 : decode prog_2_method_1_code 5 = .ok (.sipush 3706, 3) := by decide +kernel
theorem d_Codewords_init_8 : decode prog_2_method_1_code 8 = .ok (.newarray .byte, 2) := by decide +kernel
theorem d_Codewords_init_10 : decode prog_2_method_1_code 10 = .ok (.putfield 9, 3) := by decide +kernel
theorem d_Codewords_init_13 : decode prog_2_method_1_code 13 = .ok (.aload_n 0, 1) := by decide +kernel
theorem d_Codewords_init_14 : decode prog_2_method_1_code 14 = .ok (.bipush 31, 2) := by decide +kernel
theorem d_Codewords_init_16 : decode prog_2_method_1_code 16 = .ok (.newarray .int, 2) := by decide +kernel
theorem d_Codewords_init_18 : decode prog_2_method_1_code 18 = .ok (.putfield 13, 3) := by decide +kernel
theorem d_Codewords_init_21 : decode prog_2_method_1_code 21 = .ok (.aload_n 0, 1) := by decide +kernel
theorem d_Codewords_init_22 : decode prog_2_method_1_code 22 = .ok (.bipush 31, 2) := by decide +kernel
theorem d_Codewords_init_24 : decode prog_2_method_1_code 24 = .ok (.newarray .int, 2) := by decide +kernel
theorem d_Codewords_init_26 : decode prog_2_method_1_code 26 = .ok (.putfield 17, 3) := by decide +kernel
theorem d_Codewords_init_29 : decode prog_2_method_1_code 29 = .ok (.aload_n 0, 1) := by decide +kernel
theorem d_Codewords_init_30 : decode prog_2_method_1_code 30 = .ok (.iconst 1, 1) := by decide +kernel
theorem d_Codewords_init_31 : decode prog_2_method_1_code 31 = .ok (.putfield 20, 3) := by decide +kernel
theorem d_Codewords_init_34 : decode prog_2_method_1_code 34 = .ok (.aload_n 0, 1) := by decide +kernel
theorem d_Codewords_init_35 : decode prog_2_method_1_code 35 = .ok (.aload_n 1, 1) := by decide +kernel
theorem d_Codewords_init_36 : decode prog_2_method_1_code 36 = .ok (.putfield 24, 3) := by decide +kernel
theorem d_Codewords_init_39 : decode prog_2_method_1_code 39 = .ok (.return_, 1) := by decide +kernel
theorem d_Codewords_begin_0 : decode prog_2_method_2_code 0 = .ok (.aload_n 0, 1) := by decide +kernel
theorem d_Codewords_begin_1 : decode prog_2_method_2_code 1 = .ok (.iload_n 2, 1) := by decide +kernel
theorem d_Codewords_begin_2 : decode prog_2_method_2_code 2 = .ok (.putfield 28, 3) := by decide +kernel
theorem d_Codewords_begin_5 : decode prog_2_method_2_code 5 = .ok (.aload_n 0, 1) := by decide +kernel
theorem d_Codewords_begin_6 : decode prog_2_method_2_code 6 = .ok (.iload_n 2, 1) := by decide +kernel
theorem d_Codewords_begin_7 : decode prog_2_method_2_code 7 = .ok (.invokestatic 31, 3) := by decide +kernel
theorem d_Codewords_begin_10 : decode prog_2_method_2_code 10 = .ok (.putfield 37, 3) := by decide +kernel
theorem d_Codewords_begin_13 : decode prog_2_method_2_code 13 = .ok (.aload_n 0, 1) := by decide +kernel
theorem d_Codewords_begin_14 : decode prog_2_method_2_code 14 = .ok (.iload_n 1, 1) := by decide +kernel
theorem d_Codewords_begin_15 : decode prog_2_method_2_code 15 = .ok (.iload_n 2, 1) := by decide +kernel
theorem d_Codewords_begin_16 : decode prog_2_method_2_code 16 = .ok (.invokestatic 40, 3) := by decide +kernel
theorem d_Codewords_begin_19 : decode prog_2_method_2_code 19 = .ok (.putfield 44, 3) := by decide +kernel
theorem d_Codewords_begin_22 : decode prog_2_method_2_code 22 = .ok (.aload_n 0, 1) := by decide +kernel
theorem d_Codewords_begin_23 : decode prog_2_method_2_code 23 = .ok (.iconst 1, 1) := by decide +kernel
theorem d_Codewords_begin_24 : decode prog_2_method_2_code 24 = .ok (.iload_n 1, 1) := by decide +kernel
theorem d_Codewords_begin_25 : decode prog_2_method_2_code 25 = .ok (.iload_n 2, 1) := by decide +kernel
theorem d_Codewords_begin_26 : decode prog_2_method_2_code 26 = .ok (.invokestatic 46, 3) := by decide +kernel
theorem d_Codewords_begin_29 : decode prog_2_method_2_code 29 = .ok (.invokestatic 48, 3) := by decide +kernel
theorem d_Codewords_begin_32 : decode prog_2_method_2_code 32 = .ok (.putfield 20, 3) := by decide +kernel
theorem d_Codewords_begin_35 : decode prog_2_method_2_code 35 = .ok (.aload_n 0, 1) := by decide +kernel
theorem d_Codewords_begin_36 : decode prog_2_method_2_code 36 = .ok (.bipush 30, 2) := by decide +kernel
theorem d_Codewords_begin_38 : decode prog_2_method_2_code 38 = .ok (.iload_n 1, 1) := by decide +kernel
theorem d_Codewords_begin_39 : decode prog_2_method_2_code 39 = .ok (.iload_n 2, 1) := by decide +kernel
theorem d_Codewords_begin_40 : decode prog_2_method_2_code 40 = .ok (.invokestatic 53, 3) := by decide +kernel
theorem d_Codewords_begin_43 : decode prog_2_method_2_code 43 = .ok (.invokestatic 56, 3) := by decide +kernel
theorem d_Codewords_begin_46 : decode prog_2_method_2_code 46 = .ok (.putfield 59, 3) := by decide +kernel
theorem d_Codewords_begin_49 : decode prog_2_method_2_code 49 = .ok (.aload_n 0, 1) := by decide +kernel
theorem d_Codewords_begin_50 : decode prog_2_method_2_code 50 = .ok (.aload_n 0, 1) := by decide +kernel
theorem d_Codewords_begin_51 : decode prog_2_method_2_code 51 = .ok (.getfield 44, 3) := by decide +kernel
theorem d_Codewords_begin_54 : decode prog_2_method_2_code 54 = .ok (.aload_n 0, 1) := by decide +kernel
theorem d_Codewords_begin_55 : decode prog_2_method_2_code 55 = .ok (.getfield 20, 3) := by decide +kernel
theorem d_Codewords_begin_58 : decode prog_2_method_2_code 58 = .ok (.idiv, 1) := by decide +kernel
theorem d_Codewords_begin_59 : decode prog_2_method_2_code 59 = .ok (.putfield 61, 3) := by decide +kernel
theorem d_Codewords_begin_62 : decode prog_2_method_2_code 62 = .ok (.aload_n 0, 1) := by decide +kernel
theorem d_Codewords_begin_63 : decode prog_2_method_2_code 63 = .ok (.aload_n 0, 1) := by decide +kernel
theorem d_Codewords_begin_64 : decode prog_2_method_2_code 64 = .ok (.getfield 20, 3) := by decide +kernel
theorem d_Codewords_begin_67 : decode prog_2_method_2_code 67 = .ok (.aload_n 0, 1) := by decide +kernel
theorem d_Codewords_begin_68 : decode prog_2_method_2_code 68 = .ok (.getfield 44, 3) := by decide +kernel
theorem d_Codewords_begin_71 : decode prog_2_method_2_code 71 = .ok (.aload_n 0, 1) := by decide +kernel
theorem d_Codewords_begin_72 : decode prog_2_method_2_code 72 = .ok (.getfield 20, 3) := by decide +kernel
theorem d_Codewords_begin_75 : decode prog_2_method_2_code 75 = .ok (.irem, 1) := by decide +kernel
theorem d_Codewords_begin_76 : decode prog_2_method_2_code 76 = .ok (.isub, 1) := by decide +kernel
theorem d_Codewords_begin_77 : decode prog_2_method_2_code 77 = .ok (.putfield 64, 3) := by decide +kernel
theorem d_Codewords_begin_80 : decode prog_2_method_2_code 80 = .ok (.aload_n 0, 1) := by decide +kernel
theorem d_Codewords_begin_81 : decode prog_2_method_2_code 81 = .ok (.iconst 0, 1) := by decide +kernel
theorem d_Codewords_begin_82 : decode prog_2_method_2_code 82 = .ok (.putfield 67, 3) := by decide +kernel
theorem d_Codewords_begin_85 : decode prog_2_method_2_code 85 = .ok (.aload_n 0, 1) := by decide +kernel
theorem d_Codewords_begin_86 : decode prog_2_method_2_code 86 = .ok (.iconst 0, 1) := by decide +kernel
theorem d_Codewords_begin_87 : decode prog_2_method_2_code 87 = .ok (.putfield 70, 3) := by decide +kernel
theorem d_Codewords_begin_90 : decode prog_2_method_2_code 90 = .ok (.aload_n 0, 1) := by decide +kernel
theorem d_Codewords_begin_91 : decode prog_2_method_2_code 91 = .ok (.iconst 0, 1) := by decide +kernel
theorem d_Codewords_begin_92 : decode prog_2_method_2_code 92 = .ok (.putfield 73, 3) := by decide +kernel
theorem d_Codewords_begin_95 : decode prog_2_method_2_code 95 = .ok (.return_, 1) := by decide +kernel
theorem d_Codewords_total_0 : decode prog_2_method_3_code 0 = .ok (.aload_n 0, 1) := by decide +kernel
theorem d_Codewords_total_1 : decode prog_2_method_3_code 1 = .ok (.getfield 37, 3) := by decide +kernel
theorem d_Codewords_total_4 : decode prog_2_method_3_code 4 = .ok (.ireturn, 1) := by decide +kernel
theorem d_Codewords_placeInOrder_0 : decode prog_2_method_12_code 0 = .ok (.iconst 1, 1) := by decide +kernel
theorem d_Codewords_placeInOrder_1 : decode prog_2_method_12_code 1 = .ok (.aload_n 0, 1) := by decide +kernel
theorem d_Codewords_placeInOrder_2 : decode prog_2_method_12_code 2 = .ok (.getfield 20, 3) := by decide +kernel
theorem d_Codewords_placeInOrder_5 : decode prog_2_method_12_code 5 = .ok (.invokestatic 48, 3) := by decide +kernel
theorem d_Codewords_placeInOrder_8 : decode prog_2_method_12_code 8 = .ok (.istore_n 2, 1) := by decide +kernel
theorem d_Codewords_placeInOrder_9 : decode prog_2_method_12_code 9 = .ok (.iload_n 1, 1) := by decide +kernel
theorem d_Codewords_placeInOrder_10 : decode prog_2_method_12_code 10 = .ok (.aload_n 0, 1) := by decide +kernel
theorem d_Codewords_placeInOrder_11 : decode prog_2_method_12_code 11 = .ok (.getfield 61, 3) := by decide +kernel
theorem d_Codewords_placeInOrder_14 : decode prog_2_method_12_code 14 = .ok (.iload_n 2, 1) := by decide +kernel
theorem d_Codewords_placeInOrder_15 : decode prog_2_method_12_code 15 = .ok (.imul, 1) := by decide +kernel
theorem d_Codewords_placeInOrder_16 : decode prog_2_method_12_code 16 = .ok (.if_icmp .ge 14, 3) := by decide +kernel
theorem d_Codewords_placeInOrder_19 : decode prog_2_method_12_code 19 = .ok (.aload_n 0, 1) := by decide +kernel
theorem d_Codewords_placeInOrder_20 : decode prog_2_method_12_code 20 = .ok (.iload_n 1, 1) := by decide +kernel
theorem d_Codewords_placeInOrder_21 : decode prog_2_method_12_code 21 = .ok (.iload_n 2, 1) := by decide +kernel
theorem d_Codewords_placeInOrder_22 : decode prog_2_method_12_code 22 = .ok (.irem, 1) := by decide +kernel
theorem d_Codewords_placeInOrder_23 : decode prog_2_method_12_code 23 = .ok (.iload_n 1, 1) := by decide +kernel
theorem d_Codewords_placeInOrder_24 : decode prog_2_method_12_code 24 = .ok (.iload_n 2, 1) := by decide +kernel
theorem d_Codewords_placeInOrder_25 : decode prog_2_method_12_code 25 = .ok (.idiv, 1) := by decide +kernel
theorem d_Codewords_placeInOrder_26 : decode prog_2_method_12_code 26 = .ok (.invokevirtual 82, 3) := by decide +kernel
theorem d_Codewords_placeInOrder_29 : decode prog_2_method_12_code 29 = .ok (.ireturn, 1) := by decide +kernel
theorem d_Codewords_placeInOrder_30 : decode prog_2_method_12_code 30 = .ok (.iload_n 1, 1) := by decide +kernel
theorem d_Codewords_placeInOrder_31 : decode prog_2_method_12_code 31 = .ok (.aload_n 0, 1) := by decide +kernel
theorem d_Codewords_placeInOrder_32 : decode prog_2_method_12_code 32 = .ok (.getfield 44, 3) := by decide +kernel
theorem d_Codewords_placeInOrder_35 : decode prog_2_method_12_code 35 = .ok (.if_icmp .ge 25, 3) := by decide +kernel
theorem d_Codewords_placeInOrder_38 : decode prog_2_method_12_code 38 = .ok (.aload_n 0, 1) := by decide +kernel
theorem d_Codewords_placeInOrder_39 : decode prog_2_method_12_code 39 = .ok (.aload_n 0, 1) := by decide +kernel
theorem d_Codewords_placeInOrder_40 : decode prog_2_method_12_code 40 = .ok (.getfield 64, 3) := by decide +kernel
theorem d_Codewords_placeInOrder_43 : decode prog_2_method_12_code 43 = .ok (.iload_n 1, 1) := by decide +kernel
theorem d_Codewords_placeInOrder_44 : decode prog_2_method_12_code 44 = .ok (.iadd, 1) := by decide +kernel
theorem d_Codewords_placeInOrder_45 : decode prog_2_method_12_code 45 = .ok (.aload_n 0, 1) := by decide +kernel
theorem d_Codewords_placeInOrder_46 : decode prog_2_method_12_code 46 = .ok (.getfield 61, 3) := by decide +kernel
theorem d_Codewords_placeInOrder_49 : decode prog_2_method_12_code 49 = .ok (.iload_n 2, 1) := by decide +kernel
theorem d_Codewords_placeInOrder_50 : decode prog_2_method_12_code 50 = .ok (.imul, 1) := by decide +kernel
theorem d_Codewords_placeInOrder_51 : decode prog_2_method_12_code 51 = .ok (.isub, 1) := by decide +kernel
theorem d_Codewords_placeInOrder_52 : decode prog_2_method_12_code 52 = .ok (.aload_n 0, 1) := by decide +kernel
theorem d_Codewords_placeInOrder_53 : decode prog_2_method_12_code 53 = .ok (.getfield 61, 3) := by decide +kernel
theorem d_Codewords_placeInOrder_56 : decode prog_2_method_12_code 56 = .ok (.invokevirtual 82, 3) := by decide +kernel
theorem d_Codewords_placeInOrder_59 : decode prog_2_method_12_code 59 = .ok (.ireturn, 1) := by decide +kernel
theorem d_Codewords_placeInOrder_60 : decode prog_2_method_12_code 60 = .ok (.iload_n 1, 1) := by decide +kernel
theorem d_Codewords_placeInOrder_61 : decode prog_2_method_12_code 61 = .ok (.aload_n 0, 1) := by decide +kernel
theorem d_Codewords_placeInOrder_62 : decode prog_2_method_12_code 62 = .ok (.getfield 44, 3) := by decide +kernel
theorem d_Codewords_placeInOrder_65 : decode prog_2_method_12_code 65 = .ok (.isub, 1) := by decide +kernel
theorem d_Codewords_placeInOrder_66 : decode prog_2_method_12_code 66 = .ok (.istore_n 3, 1) := by decide +kernel
theorem d_Codewords_placeInOrder_67 : decode prog_2_method_12_code 67 = .ok (.aload_n 0, 1) := by decide +kernel
theorem d_Codewords_placeInOrder_68 : decode prog_2_method_12_code 68 = .ok (.getfield 44, 3) := by decide +kernel
theorem d_Codewords_placeInOrder_71 : decode prog_2_method_12_code 71 = .ok (.iload_n 3, 1) := by decide +kernel
theorem d_Codewords_placeInOrder_72 : decode prog_2_method_12_code 72 = .ok (.iload_n 2, 1) := by decide +kernel
theorem d_Codewords_placeInOrder_73 : decode prog_2_method_12_code 73 = .ok (.irem, 1) := by decide +kernel
theorem d_Codewords_placeInOrder_74 : decode prog_2_method_12_code 74 = .ok (.aload_n 0, 1) := by decide +kernel
theorem d_Codewords_placeInOrder_75 : decode prog_2_method_12_code 75 = .ok (.getfield 59, 3) := by decide +kernel
theorem d_Codewords_placeInOrder_78 : decode prog_2_method_12_code 78 = .ok (.imul, 1) := by decide +kernel
theorem d_Codewords_placeInOrder_79 : decode prog_2_method_12_code 79 = .ok (.iadd, 1) := by decide +kernel
theorem d_Codewords_placeInOrder_80 : decode prog_2_method_12_code 80 = .ok (.iload_n 3, 1) := by decide +kernel
theorem d_Codewords_placeInOrder_81 : decode prog_2_method_12_code 81 = .ok (.iload_n 2, 1) := by decide +kernel
theorem d_Codewords_placeInOrder_82 : decode prog_2_method_12_code 82 = .ok (.idiv, 1) := by decide +kernel
theorem d_Codewords_placeInOrder_83 : decode prog_2_method_12_code 83 = .ok (.iadd, 1) := by decide +kernel
theorem d_Codewords_placeInOrder_84 : decode prog_2_method_12_code 84 = .ok (.ireturn, 1) := by decide +kernel
theorem d_Codewords_placeInBlock_0 : decode prog_2_method_11_code 0 = .ok (.aload_n 0, 1) := by decide +kernel
theorem d_Codewords_placeInBlock_1 : decode prog_2_method_11_code 1 = .ok (.iload_n 1, 1) := by decide +kernel
theorem d_Codewords_placeInBlock_2 : decode prog_2_method_11_code 2 = .ok (.invokevirtual 76, 3) := by decide +kernel
theorem d_Codewords_placeInBlock_5 : decode prog_2_method_11_code 5 = .ok (.istore_n 3, 1) := by decide +kernel
theorem d_Codewords_placeInBlock_6 : decode prog_2_method_11_code 6 = .ok (.iload_n 2, 1) := by decide +kernel
theorem d_Codewords_placeInBlock_7 : decode prog_2_method_11_code 7 = .ok (.iload_n 3, 1) := by decide +kernel
theorem d_Codewords_placeInBlock_8 : decode prog_2_method_11_code 8 = .ok (.if_icmp .ge 13, 3) := by decide +kernel
theorem d_Codewords_placeInBlock_11 : decode prog_2_method_11_code 11 = .ok (.aload_n 0, 1) := by decide +kernel
theorem d_Codewords_placeInBlock_12 : decode prog_2_method_11_code 12 = .ok (.iload_n 1, 1) := by decide +kernel
theorem d_Codewords_placeInBlock_13 : decode prog_2_method_11_code 13 = .ok (.invokevirtual 79, 3) := by decide +kernel
theorem d_Codewords_placeInBlock_16 : decode prog_2_method_11_code 16 = .ok (.iload_n 2, 1) := by decide +kernel
theorem d_Codewords_placeInBlock_17 : decode prog_2_method_11_code 17 = .ok (.iadd, 1) := by decide +kernel
theorem d_Codewords_placeInBlock_18 : decode prog_2_method_11_code 18 = .ok (.goto 18, 3) := by decide +kernel
theorem d_Codewords_placeInBlock_21 : decode prog_2_method_11_code 21 = .ok (.aload_n 0, 1) := by decide +kernel
theorem d_Codewords_placeInBlock_22 : decode prog_2_method_11_code 22 = .ok (.getfield 44, 3) := by decide +kernel
theorem d_Codewords_placeInBlock_25 : decode prog_2_method_11_code 25 = .ok (.iload_n 1, 1) := by decide +kernel
theorem d_Codewords_placeInBlock_26 : decode prog_2_method_11_code 26 = .ok (.aload_n 0, 1) := by decide +kernel
theorem d_Codewords_placeInBlock_27 : decode prog_2_method_11_code 27 = .ok (.getfield 59, 3) := by decide +kernel
theorem d_Codewords_placeInBlock_30 : decode prog_2_method_11_code 30 = .ok (.imul, 1) := by decide +kernel
theorem d_Codewords_placeInBlock_31 : decode prog_2_method_11_code 31 = .ok (.iadd, 1) := by decide +kernel
theorem d_Codewords_placeInBlock_32 : decode prog_2_method_11_code 32 = .ok (.iload_n 2, 1) := by decide +kernel
theorem d_Codewords_placeInBlock_33 : decode prog_2_method_11_code 33 = .ok (.iadd, 1) := by decide +kernel
theorem d_Codewords_placeInBlock_34 : decode prog_2_method_11_code 34 = .ok (.iload_n 3, 1) := by decide +kernel
theorem d_Codewords_placeInBlock_35 : decode prog_2_method_11_code 35 = .ok (.isub, 1) := by decide +kernel
theorem d_Codewords_placeInBlock_36 : decode prog_2_method_11_code 36 = .ok (.ireturn, 1) := by decide +kernel
theorem d_Codewords_length_0 : decode prog_2_method_9_code 0 = .ok (.iload_n 1, 1) := by decide +kernel
theorem d_Codewords_length_1 : decode prog_2_method_9_code 1 = .ok (.aload_n 0, 1) := by decide +kernel
theorem d_Codewords_length_2 : decode prog_2_method_9_code 2 = .ok (.getfield 64, 3) := by decide +kernel
theorem d_Codewords_length_5 : decode prog_2_method_9_code 5 = .ok (.if_icmp .ge 10, 3) := by decide +kernel
theorem d_Codewords_length_8 : decode prog_2_method_9_code 8 = .ok (.aload_n 0, 1) := by decide +kernel
theorem d_Codewords_length_9 : decode prog_2_method_9_code 9 = .ok (.getfield 61, 3) := by decide +kernel
theorem d_Codewords_length_12 : decode prog_2_method_9_code 12 = .ok (.goto 9, 3) := by decide +kernel
theorem d_Codewords_length_15 : decode prog_2_method_9_code 15 = .ok (.aload_n 0, 1) := by decide +kernel
theorem d_Codewords_length_16 : decode prog_2_method_9_code 16 = .ok (.getfield 61, 3) := by decide +kernel
theorem d_Codewords_length_19 : decode prog_2_method_9_code 19 = .ok (.iconst 1, 1) := by decide +kernel
theorem d_Codewords_length_20 : decode prog_2_method_9_code 20 = .ok (.iadd, 1) := by decide +kernel
theorem d_Codewords_length_21 : decode prog_2_method_9_code 21 = .ok (.ireturn, 1) := by decide +kernel
theorem d_Codewords_start_0 : decode prog_2_method_10_code 0 = .ok (.iload_n 1, 1) := by decide +kernel
theorem d_Codewords_start_1 : decode prog_2_method_10_code 1 = .ok (.aload_n 0, 1) := by decide +kernel
theorem d_Codewords_start_2 : decode prog_2_method_10_code 2 = .ok (.getfield 61, 3) := by decide +kernel
theorem d_Codewords_start_5 : decode prog_2_method_10_code 5 = .ok (.imul, 1) := by decide +kernel
theorem d_Codewords_start_6 : decode prog_2_method_10_code 6 = .ok (.iconst 0, 1) := by decide +kernel
theorem d_Codewords_start_7 : decode prog_2_method_10_code 7 = .ok (.iload_n 1, 1) := by decide +kernel
theorem d_Codewords_start_8 : decode prog_2_method_10_code 8 = .ok (.aload_n 0, 1) := by decide +kernel
theorem d_Codewords_start_9 : decode prog_2_method_10_code 9 = .ok (.getfield 64, 3) := by decide +kernel
theorem d_Codewords_start_12 : decode prog_2_method_10_code 12 = .ok (.isub, 1) := by decide +kernel
theorem d_Codewords_start_13 : decode prog_2_method_10_code 13 = .ok (.invokestatic 48, 3) := by decide +kernel
theorem d_Codewords_start_16 : decode prog_2_method_10_code 16 = .ok (.iadd, 1) := by decide +kernel
theorem d_Codewords_start_17 : decode prog_2_method_10_code 17 = .ok (.ireturn, 1) := by decide +kernel
theorem d_Codewords_set_0 : decode prog_2_method_8_code 0 = .ok (.iload_n 1, 1) := by decide +kernel
theorem d_Codewords_set_1 : decode prog_2_method_8_code 1 = .ok (.ifCond .lt 20, 3) := by decide +kernel
theorem d_Codewords_set_4 : decode prog_2_method_8_code 4 = .ok (.iload_n 1, 1) := by decide +kernel
theorem d_Codewords_set_5 : decode prog_2_method_8_code 5 = .ok (.aload_n 0, 1) := by decide +kernel
theorem d_Codewords_set_6 : decode prog_2_method_8_code 6 = .ok (.getfield 9, 3) := by decide +kernel
theorem d_Codewords_set_9 : decode prog_2_method_8_code 9 = .ok (.arraylength, 1) := by decide +kernel
theorem d_Codewords_set_10 : decode prog_2_method_8_code 10 = .ok (.if_icmp .ge 11, 3) := by decide +kernel
theorem d_Codewords_set_13 : decode prog_2_method_8_code 13 = .ok (.aload_n 0, 1) := by decide +kernel
theorem d_Codewords_set_14 : decode prog_2_method_8_code 14 = .ok (.getfield 9, 3) := by decide +kernel
theorem d_Codewords_set_17 : decode prog_2_method_8_code 17 = .ok (.iload_n 1, 1) := by decide +kernel
theorem d_Codewords_set_18 : decode prog_2_method_8_code 18 = .ok (.iload_n 2, 1) := by decide +kernel
theorem d_Codewords_set_19 : decode prog_2_method_8_code 19 = .ok (.i2b, 1) := by decide +kernel
theorem d_Codewords_set_20 : decode prog_2_method_8_code 20 = .ok (.bastore, 1) := by decide +kernel
theorem d_Codewords_set_21 : decode prog_2_method_8_code 21 = .ok (.return_, 1) := by decide +kernel
theorem d_Codewords_blocks_0 : decode prog_2_method_5_code 0 = .ok (.aload_n 0, 1) := by decide +kernel
theorem d_Codewords_blocks_1 : decode prog_2_method_5_code 1 = .ok (.getfield 20, 3) := by decide +kernel
theorem d_Codewords_blocks_4 : decode prog_2_method_5_code 4 = .ok (.ireturn, 1) := by decide +kernel
theorem d_Codewords_checks_0 : decode prog_2_method_6_code 0 = .ok (.aload_n 0, 1) := by decide +kernel
theorem d_Codewords_checks_1 : decode prog_2_method_6_code 1 = .ok (.getfield 59, 3) := by decide +kernel
theorem d_Codewords_checks_4 : decode prog_2_method_6_code 4 = .ok (.ireturn, 1) := by decide +kernel
theorem d_Codewords_get_0 : decode prog_2_method_7_code 0 = .ok (.iload_n 1, 1) := by decide +kernel
theorem d_Codewords_get_1 : decode prog_2_method_7_code 1 = .ok (.ifCond .lt 25, 3) := by decide +kernel
theorem d_Codewords_get_4 : decode prog_2_method_7_code 4 = .ok (.iload_n 1, 1) := by decide +kernel
theorem d_Codewords_get_5 : decode prog_2_method_7_code 5 = .ok (.aload_n 0, 1) := by decide +kernel
theorem d_Codewords_get_6 : decode prog_2_method_7_code 6 = .ok (.getfield 9, 3) := by decide +kernel
theorem d_Codewords_get_9 : decode prog_2_method_7_code 9 = .ok (.arraylength, 1) := by decide +kernel
theorem d_Codewords_get_10 : decode prog_2_method_7_code 10 = .ok (.if_icmp .ge 16, 3) := by decide +kernel
theorem d_Codewords_get_13 : decode prog_2_method_7_code 13 = .ok (.aload_n 0, 1) := by decide +kernel
theorem d_Codewords_get_14 : decode prog_2_method_7_code 14 = .ok (.getfield 9, 3) := by decide +kernel
theorem d_Codewords_get_17 : decode prog_2_method_7_code 17 = .ok (.iload_n 1, 1) := by decide +kernel
theorem d_Codewords_get_18 : decode prog_2_method_7_code 18 = .ok (.baload, 1) := by decide +kernel
theorem d_Codewords_get_19 : decode prog_2_method_7_code 19 = .ok (.sipush 255, 3) := by decide +kernel
theorem d_Codewords_get_22 : decode prog_2_method_7_code 22 = .ok (.iand, 1) := by decide +kernel
theorem d_Codewords_get_23 : decode prog_2_method_7_code 23 = .ok (.goto 4, 3) := by decide +kernel
theorem d_Codewords_get_26 : decode prog_2_method_7_code 26 = .ok (.iconst 0, 1) := by decide +kernel
theorem d_Codewords_get_27 : decode prog_2_method_7_code 27 = .ok (.ireturn, 1) := by decide +kernel
theorem d_Codewords_holds_0 : decode prog_2_method_4_code 0 = .ok (.aload_n 0, 1) := by decide +kernel
theorem d_Codewords_holds_1 : decode prog_2_method_4_code 1 = .ok (.getfield 44, 3) := by decide +kernel
theorem d_Codewords_holds_4 : decode prog_2_method_4_code 4 = .ok (.ireturn, 1) := by decide +kernel
theorem d_Codewords_appendSegment_0 : decode prog_2_method_13_code 0 = .ok (.aload_n 0, 1) := by decide +kernel
theorem d_Codewords_appendSegment_1 : decode prog_2_method_13_code 1 = .ok (.iconst 1, 1) := by decide +kernel
theorem d_Codewords_appendSegment_2 : decode prog_2_method_13_code 2 = .ok (.iload 4, 2) := by decide +kernel
theorem d_Codewords_appendSegment_4 : decode prog_2_method_13_code 4 = .ok (.ishl, 1) := by decide +kernel
theorem d_Codewords_appendSegment_5 : decode prog_2_method_13_code 5 = .ok (.iconst 4, 1) := by decide +kernel
theorem d_Codewords_appendSegment_6 : decode prog_2_method_13_code 6 = .ok (.invokevirtual 85, 3) := by decide +kernel
theorem d_Codewords_appendSegment_9 : decode prog_2_method_13_code 9 = .ok (.aload_n 0, 1) := by decide +kernel
theorem d_Codewords_appendSegment_10 : decode prog_2_method_13_code 10 = .ok (.iload_n 3, 1) := by decide +kernel
theorem d_Codewords_appendSegment_11 : decode prog_2_method_13_code 11 = .ok (.iload 4, 2) := by decide +kernel
theorem d_Codewords_appendSegment_13 : decode prog_2_method_13_code 13 = .ok (.aload_n 0, 1) := by decide +kernel
theorem d_Codewords_appendSegment_14 : decode prog_2_method_13_code 14 = .ok (.getfield 28, 3) := by decide +kernel
theorem d_Codewords_appendSegment_17 : decode prog_2_method_13_code 17 = .ok (.invokestatic 89, 3) := by decide +kernel
theorem d_Codewords_appendSegment_20 : decode prog_2_method_13_code 20 = .ok (.invokevirtual 85, 3) := by decide +kernel
theorem d_Codewords_appendSegment_23 : decode prog_2_method_13_code 23 = .ok (.iconst 1, 1) := by decide +kernel
theorem d_Codewords_appendSegment_24 : decode prog_2_method_13_code 24 = .ok (.iload 4, 2) := by decide +kernel
theorem d_Codewords_appendSegment_26 : decode prog_2_method_13_code 26 = .ok (.invokestatic 92, 3) := by decide +kernel
theorem d_Codewords_appendSegment_29 : decode prog_2_method_13_code 29 = .ok (.invokestatic 48, 3) := by decide +kernel
theorem d_Codewords_appendSegment_32 : decode prog_2_method_13_code 32 = .ok (.istore 5, 2) := by decide +kernel
theorem d_Codewords_appendSegment_34 : decode prog_2_method_13_code 34 = .ok (.iconst 0, 1) := by decide +kernel
theorem d_Codewords_appendSegment_35 : decode prog_2_method_13_code 35 = .ok (.istore 6, 2) := by decide +kernel
theorem d_Codewords_appendSegment_37 : decode prog_2_method_13_code 37 = .ok (.iload 6, 2) := by decide +kernel
theorem d_Codewords_appendSegment_39 : decode prog_2_method_13_code 39 = .ok (.iload_n 3, 1) := by decide +kernel
theorem d_Codewords_appendSegment_40 : decode prog_2_method_13_code 40 = .ok (.if_icmp .ge 87, 3) := by decide +kernel
theorem d_Codewords_appendSegment_43 : decode prog_2_method_13_code 43 = .ok (.iload 5, 2) := by decide +kernel
theorem d_Codewords_appendSegment_45 : decode prog_2_method_13_code 45 = .ok (.iload_n 3, 1) := by decide +kernel
theorem d_Codewords_appendSegment_46 : decode prog_2_method_13_code 46 = .ok (.iload 6, 2) := by decide +kernel
theorem d_Codewords_appendSegment_48 : decode prog_2_method_13_code 48 = .ok (.isub, 1) := by decide +kernel
theorem d_Codewords_appendSegment_49 : decode prog_2_method_13_code 49 = .ok (.invokestatic 56, 3) := by decide +kernel
theorem d_Codewords_appendSegment_52 : decode prog_2_method_13_code 52 = .ok (.istore 7, 2) := by decide +kernel
theorem d_Codewords_appendSegment_54 : decode prog_2_method_13_code 54 = .ok (.iconst 0, 1) := by decide +kernel
theorem d_Codewords_appendSegment_55 : decode prog_2_method_13_code 55 = .ok (.istore 8, 2) := by decide +kernel
theorem d_Codewords_appendSegment_57 : decode prog_2_method_13_code 57 = .ok (.iconst 0, 1) := by decide +kernel
theorem d_Codewords_appendSegment_58 : decode prog_2_method_13_code 58 = .ok (.istore 9, 2) := by decide +kernel
theorem d_Codewords_appendSegment_60 : decode prog_2_method_13_code 60 = .ok (.iload 9, 2) := by decide +kernel
theorem d_Codewords_appendSegment_62 : decode prog_2_method_13_code 62 = .ok (.iload 7, 2) := by decide +kernel
theorem d_Codewords_appendSegment_64 : decode prog_2_method_13_code 64 = .ok (.if_icmp .ge 40, 3) := by decide +kernel
theorem d_Codewords_appendSegment_67 : decode prog_2_method_13_code 67 = .ok (.iload 4, 2) := by decide +kernel
theorem d_Codewords_appendSegment_69 : decode prog_2_method_13_code 69 = .ok (.aload_n 1, 1) := by decide +kernel
theorem d_Codewords_appendSegment_70 : decode prog_2_method_13_code 70 = .ok (.iload_n 2, 1) := by decide +kernel
theorem d_Codewords_appendSegment_71 : decode prog_2_method_13_code 71 = .ok (.iload 6, 2) := by decide +kernel
theorem d_Codewords_appendSegment_73 : decode prog_2_method_13_code 73 = .ok (.iadd, 1) := by decide +kernel
theorem d_Codewords_appendSegment_74 : decode prog_2_method_13_code 74 = .ok (.iload 9, 2) := by decide +kernel
theorem d_Codewords_appendSegment_76 : decode prog_2_method_13_code 76 = .ok (.iadd, 1) := by decide +kernel
theorem d_Codewords_appendSegment_77 : decode prog_2_method_13_code 77 = .ok (.invokevirtual 97, 3) := by decide +kernel
theorem d_Codewords_appendSegment_80 : decode prog_2_method_13_code 80 = .ok (.invokestatic 102, 3) := by decide +kernel
theorem d_Codewords_appendSegment_83 : decode prog_2_method_13_code 83 = .ok (.istore 10, 2) := by decide +kernel
theorem d_Codewords_appendSegment_85 : decode prog_2_method_13_code 85 = .ok (.iload 4, 2) := by decide +kernel
theorem d_Codewords_appendSegment_87 : decode prog_2_method_13_code 87 = .ok (.invokestatic 105, 3) := by decide +kernel
theorem d_Codewords_appendSegment_90 : decode prog_2_method_13_code 90 = .ok (.iload 8, 2) := by decide +kernel
theorem d_Codewords_appendSegment_92 : decode prog_2_method_13_code 92 = .ok (.imul, 1) := by decide +kernel
theorem d_Codewords_appendSegment_93 : decode prog_2_method_13_code 93 = .ok (.iload 10, 2) := by decide +kernel
theorem d_Codewords_appendSegment_95 : decode prog_2_method_13_code 95 = .ok (.iadd, 1) := by decide +kernel
theorem d_Codewords_appendSegment_96 : decode prog_2_method_13_code 96 = .ok (.istore 8, 2) := by decide +kernel
theorem d_Codewords_appendSegment_98 : decode prog_2_method_13_code 98 = .ok (.iinc 9 1, 3) := by decide +kernel
theorem d_Codewords_appendSegment_101 : decode prog_2_method_13_code 101 = .ok (.goto (-41), 3) := by decide +kernel
theorem d_Codewords_appendSegment_104 : decode prog_2_method_13_code 104 = .ok (.aload_n 0, 1) := by decide +kernel
theorem d_Codewords_appendSegment_105 : decode prog_2_method_13_code 105 = .ok (.iload 8, 2) := by decide +kernel
theorem d_Codewords_appendSegment_107 : decode prog_2_method_13_code 107 = .ok (.iload 4, 2) := by decide +kernel
theorem d_Codewords_appendSegment_109 : decode prog_2_method_13_code 109 = .ok (.iload 7, 2) := by decide +kernel
theorem d_Codewords_appendSegment_111 : decode prog_2_method_13_code 111 = .ok (.invokestatic 108, 3) := by decide +kernel
theorem d_Codewords_appendSegment_114 : decode prog_2_method_13_code 114 = .ok (.invokevirtual 85, 3) := by decide +kernel
theorem d_Codewords_appendSegment_117 : decode prog_2_method_13_code 117 = .ok (.iload 6, 2) := by decide +kernel
theorem d_Codewords_appendSegment_119 : decode prog_2_method_13_code 119 = .ok (.iload 5, 2) := by decide +kernel
theorem d_Codewords_appendSegment_121 : decode prog_2_method_13_code 121 = .ok (.iadd, 1) := by decide +kernel
theorem d_Codewords_appendSegment_122 : decode prog_2_method_13_code 122 = .ok (.istore 6, 2) := by decide +kernel
theorem d_Codewords_appendSegment_124 : decode prog_2_method_13_code 124 = .ok (.goto (-87), 3) := by decide +kernel
theorem d_Codewords_appendSegment_127 : decode prog_2_method_13_code 127 = .ok (.return_, 1) := by decide +kernel
theorem d_Codewords_appendBits_0 : decode prog_2_method_14_code 0 = .ok (.aload_n 0, 1) := by decide +kernel
theorem d_Codewords_appendBits_1 : decode prog_2_method_14_code 1 = .ok (.aload_n 0, 1) := by decide +kernel
theorem d_Codewords_appendBits_2 : decode prog_2_method_14_code 2 = .ok (.getfield 70, 3) := by decide +kernel
theorem d_Codewords_appendBits_5 : decode prog_2_method_14_code 5 = .ok (.iload_n 2, 1) := by decide +kernel
theorem d_Codewords_appendBits_6 : decode prog_2_method_14_code 6 = .ok (.ishl, 1) := by decide +kernel
theorem d_Codewords_appendBits_7 : decode prog_2_method_14_code 7 = .ok (.iload_n 1, 1) := by decide +kernel
theorem d_Codewords_appendBits_8 : decode prog_2_method_14_code 8 = .ok (.ior, 1) := by decide +kernel
theorem d_Codewords_appendBits_9 : decode prog_2_method_14_code 9 = .ok (.putfield 70, 3) := by decide +kernel
theorem d_Codewords_appendBits_12 : decode prog_2_method_14_code 12 = .ok (.aload_n 0, 1) := by decide +kernel
theorem d_Codewords_appendBits_13 : decode prog_2_method_14_code 13 = .ok (.dup, 1) := by decide +kernel
theorem d_Codewords_appendBits_14 : decode prog_2_method_14_code 14 = .ok (.getfield 73, 3) := by decide +kernel
theorem d_Codewords_appendBits_17 : decode prog_2_method_14_code 17 = .ok (.iload_n 2, 1) := by decide +kernel
theorem d_Codewords_appendBits_18 : decode prog_2_method_14_code 18 = .ok (.iadd, 1) := by decide +kernel
theorem d_Codewords_appendBits_19 : decode prog_2_method_14_code 19 = .ok (.putfield 73, 3) := by decide +kernel
theorem d_Codewords_appendBits_22 : decode prog_2_method_14_code 22 = .ok (.aload_n 0, 1) := by decide +kernel
theorem d_Codewords_appendBits_23 : decode prog_2_method_14_code 23 = .ok (.getfield 73, 3) := by decide +kernel
theorem d_Codewords_appendBits_26 : decode prog_2_method_14_code 26 = .ok (.bipush 8, 2) := by decide +kernel
theorem d_Codewords_appendBits_28 : decode prog_2_method_14_code 28 = .ok (.if_icmp .lt 44, 3) := by decide +kernel
theorem d_Codewords_appendBits_31 : decode prog_2_method_14_code 31 = .ok (.aload_n 0, 1) := by decide +kernel
theorem d_Codewords_appendBits_32 : decode prog_2_method_14_code 32 = .ok (.dup, 1) := by decide +kernel
theorem d_Codewords_appendBits_33 : decode prog_2_method_14_code 33 = .ok (.getfield 73, 3) := by decide +kernel
theorem d_Codewords_appendBits_36 : decode prog_2_method_14_code 36 = .ok (.bipush 8, 2) := by decide +kernel
theorem d_Codewords_appendBits_38 : decode prog_2_method_14_code 38 = .ok (.isub, 1) := by decide +kernel
theorem d_Codewords_appendBits_39 : decode prog_2_method_14_code 39 = .ok (.putfield 73, 3) := by decide +kernel
theorem d_Codewords_appendBits_42 : decode prog_2_method_14_code 42 = .ok (.aload_n 0, 1) := by decide +kernel
theorem d_Codewords_appendBits_43 : decode prog_2_method_14_code 43 = .ok (.aload_n 0, 1) := by decide +kernel
theorem d_Codewords_appendBits_44 : decode prog_2_method_14_code 44 = .ok (.getfield 67, 3) := by decide +kernel
theorem d_Codewords_appendBits_47 : decode prog_2_method_14_code 47 = .ok (.aload_n 0, 1) := by decide +kernel
theorem d_Codewords_appendBits_48 : decode prog_2_method_14_code 48 = .ok (.getfield 70, 3) := by decide +kernel
theorem d_Codewords_appendBits_51 : decode prog_2_method_14_code 51 = .ok (.aload_n 0, 1) := by decide +kernel
theorem d_Codewords_appendBits_52 : decode prog_2_method_14_code 52 = .ok (.getfield 73, 3) := by decide +kernel
theorem d_Codewords_appendBits_55 : decode prog_2_method_14_code 55 = .ok (.ishr, 1) := by decide +kernel
theorem d_Codewords_appendBits_56 : decode prog_2_method_14_code 56 = .ok (.invokevirtual 111, 3) := by decide +kernel
theorem d_Codewords_appendBits_59 : decode prog_2_method_14_code 59 = .ok (.aload_n 0, 1) := by decide +kernel
theorem d_Codewords_appendBits_60 : decode prog_2_method_14_code 60 = .ok (.dup, 1) := by decide +kernel
theorem d_Codewords_appendBits_61 : decode prog_2_method_14_code 61 = .ok (.getfield 67, 3) := by decide +kernel
theorem d_Codewords_appendBits_64 : decode prog_2_method_14_code 64 = .ok (.iconst 1, 1) := by decide +kernel
theorem d_Codewords_appendBits_65 : decode prog_2_method_14_code 65 = .ok (.iadd, 1) := by decide +kernel
theorem d_Codewords_appendBits_66 : decode prog_2_method_14_code 66 = .ok (.putfield 67, 3) := by decide +kernel
theorem d_Codewords_appendBits_69 : decode prog_2_method_14_code 69 = .ok (.goto (-47), 3) := by decide +kernel
theorem d_Codewords_appendBits_72 : decode prog_2_method_14_code 72 = .ok (.aload_n 0, 1) := by decide +kernel
theorem d_Codewords_appendBits_73 : decode prog_2_method_14_code 73 = .ok (.dup, 1) := by decide +kernel
theorem d_Codewords_appendBits_74 : decode prog_2_method_14_code 74 = .ok (.getfield 70, 3) := by decide +kernel
theorem d_Codewords_appendBits_77 : decode prog_2_method_14_code 77 = .ok (.iconst 1, 1) := by decide +kernel
theorem d_Codewords_appendBits_78 : decode prog_2_method_14_code 78 = .ok (.aload_n 0, 1) := by decide +kernel
theorem d_Codewords_appendBits_79 : decode prog_2_method_14_code 79 = .ok (.getfield 73, 3) := by decide +kernel
theorem d_Codewords_appendBits_82 : decode prog_2_method_14_code 82 = .ok (.ishl, 1) := by decide +kernel
theorem d_Codewords_appendBits_83 : decode prog_2_method_14_code 83 = .ok (.iconst 1, 1) := by decide +kernel
theorem d_Codewords_appendBits_84 : decode prog_2_method_14_code 84 = .ok (.isub, 1) := by decide +kernel
theorem d_Codewords_appendBits_85 : decode prog_2_method_14_code 85 = .ok (.iand, 1) := by decide +kernel
theorem d_Codewords_appendBits_86 : decode prog_2_method_14_code 86 = .ok (.putfield 70, 3) := by decide +kernel
theorem d_Codewords_appendBits_89 : decode prog_2_method_14_code 89 = .ok (.return_, 1) := by decide +kernel
theorem d_Codewords_fillUp_0 : decode prog_2_method_15_code 0 = .ok (.bipush 8, 2) := by decide +kernel
theorem d_Codewords_fillUp_2 : decode prog_2_method_15_code 2 = .ok (.aload_n 0, 1) := by decide +kernel
theorem d_Codewords_fillUp_3 : decode prog_2_method_15_code 3 = .ok (.getfield 44, 3) := by decide +kernel
theorem d_Codewords_fillUp_6 : decode prog_2_method_15_code 6 = .ok (.aload_n 0, 1) := by decide +kernel
theorem d_Codewords_fillUp_7 : decode prog_2_method_15_code 7 = .ok (.getfield 67, 3) := by decide +kernel
theorem d_Codewords_fillUp_10 : decode prog_2_method_15_code 10 = .ok (.isub, 1) := by decide +kernel
theorem d_Codewords_fillUp_11 : decode prog_2_method_15_code 11 = .ok (.imul, 1) := by decide +kernel
theorem d_Codewords_fillUp_12 : decode prog_2_method_15_code 12 = .ok (.aload_n 0, 1) := by decide +kernel
theorem d_Codewords_fillUp_13 : decode prog_2_method_15_code 13 = .ok (.getfield 73, 3) := by decide +kernel
theorem d_Codewords_fillUp_16 : decode prog_2_method_15_code 16 = .ok (.isub, 1) := by decide +kernel
theorem d_Codewords_fillUp_17 : decode prog_2_method_15_code 17 = .ok (.istore_n 1, 1) := by decide +kernel
theorem d_Codewords_fillUp_18 : decode prog_2_method_15_code 18 = .ok (.aload_n 0, 1) := by decide +kernel
theorem d_Codewords_fillUp_19 : decode prog_2_method_15_code 19 = .ok (.iconst 0, 1) := by decide +kernel
theorem d_Codewords_fillUp_20 : decode prog_2_method_15_code 20 = .ok (.iconst 0, 1) := by decide +kernel
theorem d_Codewords_fillUp_21 : decode prog_2_method_15_code 21 = .ok (.iconst 4, 1) := by decide +kernel
theorem d_Codewords_fillUp_22 : decode prog_2_method_15_code 22 = .ok (.iload_n 1, 1) := by decide +kernel
theorem d_Codewords_fillUp_23 : decode prog_2_method_15_code 23 = .ok (.invokestatic 56, 3) := by decide +kernel
theorem d_Codewords_fillUp_26 : decode prog_2_method_15_code 26 = .ok (.invokestatic 48, 3) := by decide +kernel
theorem d_Codewords_fillUp_29 : decode prog_2_method_15_code 29 = .ok (.invokevirtual 85, 3) := by decide +kernel
theorem d_Codewords_fillUp_32 : decode prog_2_method_15_code 32 = .ok (.aload_n 0, 1) := by decide +kernel
theorem d_Codewords_fillUp_33 : decode prog_2_method_15_code 33 = .ok (.iconst 0, 1) := by decide +kernel
theorem d_Codewords_fillUp_34 : decode prog_2_method_15_code 34 = .ok (.bipush 8, 2) := by decide +kernel
theorem d_Codewords_fillUp_36 : decode prog_2_method_15_code 36 = .ok (.aload_n 0, 1) := by decide +kernel
theorem d_Codewords_fillUp_37 : decode prog_2_method_15_code 37 = .ok (.getfield 73, 3) := by decide +kernel
theorem d_Codewords_fillUp_40 : decode prog_2_method_15_code 40 = .ok (.isub, 1) := by decide +kernel
theorem d_Codewords_fillUp_41 : decode prog_2_method_15_code 41 = .ok (.bipush 7, 2) := by decide +kernel
theorem d_Codewords_fillUp_43 : decode prog_2_method_15_code 43 = .ok (.iand, 1) := by decide +kernel
theorem d_Codewords_fillUp_44 : decode prog_2_method_15_code 44 = .ok (.invokevirtual 85, 3) := by decide +kernel
theorem d_Codewords_fillUp_47 : decode prog_2_method_15_code 47 = .ok (.sipush 236, 3) := by decide +kernel
theorem d_Codewords_fillUp_50 : decode prog_2_method_15_code 50 = .ok (.istore_n 2, 1) := by decide +kernel
theorem d_Codewords_fillUp_51 : decode prog_2_method_15_code 51 = .ok (.aload_n 0, 1) := by decide +kernel
theorem d_Codewords_fillUp_52 : decode prog_2_method_15_code 52 = .ok (.getfield 67, 3) := by decide +kernel
theorem d_Codewords_fillUp_55 : decode prog_2_method_15_code 55 = .ok (.aload_n 0, 1) := by decide +kernel
theorem d_Codewords_fillUp_56 : decode prog_2_method_15_code 56 = .ok (.getfield 44, 3) := by decide +kernel
theorem d_Codewords_fillUp_59 : decode prog_2_method_15_code 59 = .ok (.if_icmp .ge 31, 3) := by decide +kernel
theorem d_Codewords_fillUp_62 : decode prog_2_method_15_code 62 = .ok (.aload_n 0, 1) := by decide +kernel
theorem d_Codewords_fillUp_63 : decode prog_2_method_15_code 63 = .ok (.aload_n 0, 1) := by decide +kernel
theorem d_Codewords_fillUp_64 : decode prog_2_method_15_code 64 = .ok (.getfield 67, 3) := by decide +kernel
theorem d_Codewords_fillUp_67 : decode prog_2_method_15_code 67 = .ok (.iload_n 2, 1) := by decide +kernel
theorem d_Codewords_fillUp_68 : decode prog_2_method_15_code 68 = .ok (.invokevirtual 111, 3) := by decide +kernel
theorem d_Codewords_fillUp_71 : decode prog_2_method_15_code 71 = .ok (.iload_n 2, 1) := by decide +kernel
theorem d_Codewords_fillUp_72 : decode prog_2_method_15_code 72 = .ok (.sipush 253, 3) := by decide +kernel
theorem d_Codewords_fillUp_75 : decode prog_2_method_15_code 75 = .ok (.ixor, 1) := by decide +kernel
theorem d_Codewords_fillUp_76 : decode prog_2_method_15_code 76 = .ok (.istore_n 2, 1) := by decide +kernel
theorem d_Codewords_fillUp_77 : decode prog_2_method_15_code 77 = .ok (.aload_n 0, 1) := by decide +kernel
theorem d_Codewords_fillUp_78 : decode prog_2_method_15_code 78 = .ok (.dup, 1) := by decide +kernel
theorem d_Codewords_fillUp_79 : decode prog_2_method_15_code 79 = .ok (.getfield 67, 3) := by decide +kernel
theorem d_Codewords_fillUp_82 : decode prog_2_method_15_code 82 = .ok (.iconst 1, 1) := by decide +kernel
theorem d_Codewords_fillUp_83 : decode prog_2_method_15_code 83 = .ok (.iadd, 1) := by decide +kernel
theorem d_Codewords_fillUp_84 : decode prog_2_method_15_code 84 = .ok (.putfield 67, 3) := by decide +kernel
theorem d_Codewords_fillUp_87 : decode prog_2_method_15_code 87 = .ok (.goto (-36), 3) := by decide +kernel
theorem d_Codewords_fillUp_90 : decode prog_2_method_15_code 90 = .ok (.return_, 1) := by decide +kernel
theorem d_Codewords_addChecks_0 : decode prog_2_method_16_code 0 = .ok (.aload_n 0, 1) := by decide +kernel
theorem d_Codewords_addChecks_1 : decode prog_2_method_16_code 1 = .ok (.invokevirtual 114, 3) := by decide +kernel
theorem d_Codewords_addChecks_4 : decode prog_2_method_16_code 4 = .ok (.iconst 0, 1) := by decide +kernel
theorem d_Codewords_addChecks_5 : decode prog_2_method_16_code 5 = .ok (.istore_n 1, 1) := by decide +kernel
theorem d_Codewords_addChecks_6 : decode prog_2_method_16_code 6 = .ok (.iload_n 1, 1) := by decide +kernel
theorem d_Codewords_addChecks_7 : decode prog_2_method_16_code 7 = .ok (.aload_n 0, 1) := by decide +kernel
theorem d_Codewords_addChecks_8 : decode prog_2_method_16_code 8 = .ok (.getfield 20, 3) := by decide +kernel
theorem d_Codewords_addChecks_11 : decode prog_2_method_16_code 11 = .ok (.if_icmp .ge 14, 3) := by decide +kernel
theorem d_Codewords_addChecks_14 : decode prog_2_method_16_code 14 = .ok (.aload_n 0, 1) := by decide +kernel
theorem d_Codewords_addChecks_15 : decode prog_2_method_16_code 15 = .ok (.iload_n 1, 1) := by decide +kernel
theorem d_Codewords_addChecks_16 : decode prog_2_method_16_code 16 = .ok (.invokevirtual 117, 3) := by decide +kernel
theorem d_Codewords_addChecks_19 : decode prog_2_method_16_code 19 = .ok (.iinc 1 1, 3) := by decide +kernel
theorem d_Codewords_addChecks_22 : decode prog_2_method_16_code 22 = .ok (.goto (-16), 3) := by decide +kernel
theorem d_Codewords_addChecks_25 : decode prog_2_method_16_code 25 = .ok (.return_, 1) := by decide +kernel
theorem d_Codewords_prepareGenerator_0 : decode prog_2_method_17_code 0 = .ok (.aload_n 0, 1) := by decide +kernel
theorem d_Codewords_prepareGenerator_1 : decode prog_2_method_17_code 1 = .ok (.getfield 13, 3) := by decide +kernel
theorem d_Codewords_prepareGenerator_4 : decode prog_2_method_17_code 4 = .ok (.iconst 0, 1) := by decide +kernel
theorem d_Codewords_prepareGenerator_5 : decode prog_2_method_17_code 5 = .ok (.invokestatic 121, 3) := by decide +kernel
theorem d_Codewords_prepareGenerator_8 : decode prog_2_method_17_code 8 = .ok (.aload_n 0, 1) := by decide +kernel
theorem d_Codewords_prepareGenerator_9 : decode prog_2_method_17_code 9 = .ok (.getfield 59, 3) := by decide +kernel
theorem d_Codewords_prepareGenerator_12 : decode prog_2_method_17_code 12 = .ok (.iconst 1, 1) := by decide +kernel
theorem d_Codewords_prepareGenerator_13 : decode prog_2_method_17_code 13 = .ok (.if_icmp .lt 12, 3) := by decide +kernel
theorem d_Codewords_prepareGenerator_16 : decode prog_2_method_17_code 16 = .ok (.aload_n 0, 1) := by decide +kernel
theorem d_Codewords_prepareGenerator_17 : decode prog_2_method_17_code 17 = .ok (.getfield 59, 3) := by decide +kernel
theorem d_Codewords_prepareGenerator_20 : decode prog_2_method_17_code 20 = .ok (.bipush 30, 2) := by decide +kernel
theorem d_Codewords_prepareGenerator_22 : decode prog_2_method_17_code 22 = .ok (.if_icmp .le 4, 3) := by decide +kernel
theorem d_Codewords_prepareGenerator_25 : decode prog_2_method_17_code 25 = .ok (.return_, 1) := by decide +kernel
theorem d_Codewords_prepareGenerator_26 : decode prog_2_method_17_code 26 = .ok (.aload_n 0, 1) := by decide +kernel
theorem d_Codewords_prepareGenerator_27 : decode prog_2_method_17_code 27 = .ok (.getfield 13, 3) := by decide +kernel
theorem d_Codewords_prepareGenerator_30 : decode prog_2_method_17_code 30 = .ok (.aload_n 0, 1) := by decide +kernel
theorem d_Codewords_prepareGenerator_31 : decode prog_2_method_17_code 31 = .ok (.getfield 59, 3) := by decide +kernel
theorem d_Codewords_prepareGenerator_34 : decode prog_2_method_17_code 34 = .ok (.iconst 1, 1) := by decide +kernel
theorem d_Codewords_prepareGenerator_35 : decode prog_2_method_17_code 35 = .ok (.isub, 1) := by decide +kernel
theorem d_Codewords_prepareGenerator_36 : decode prog_2_method_17_code 36 = .ok (.iconst 1, 1) := by decide +kernel
theorem d_Codewords_prepareGenerator_37 : decode prog_2_method_17_code 37 = .ok (.iastore, 1) := by decide +kernel
theorem d_Codewords_prepareGenerator_38 : decode prog_2_method_17_code 38 = .ok (.iconst 0, 1) := by decide +kernel
theorem d_Codewords_prepareGenerator_39 : decode prog_2_method_17_code 39 = .ok (.istore_n 1, 1) := by decide +kernel
theorem d_Codewords_prepareGenerator_40 : decode prog_2_method_17_code 40 = .ok (.iload_n 1, 1) := by decide +kernel
theorem d_Codewords_prepareGenerator_41 : decode prog_2_method_17_code 41 = .ok (.aload_n 0, 1) := by decide +kernel
theorem d_Codewords_prepareGenerator_42 : decode prog_2_method_17_code 42 = .ok (.getfield 59, 3) := by decide +kernel
theorem d_Codewords_prepareGenerator_45 : decode prog_2_method_17_code 45 = .ok (.if_icmp .ge 61, 3) := by decide +kernel
theorem d_Codewords_prepareGenerator_48 : decode prog_2_method_17_code 48 = .ok (.iconst 0, 1) := by decide +kernel
theorem d_Codewords_prepareGenerator_49 : decode prog_2_method_17_code 49 = .ok (.istore_n 2, 1) := by decide +kernel
theorem d_Codewords_prepareGenerator_50 : decode prog_2_method_17_code 50 = .ok (.iload_n 2, 1) := by decide +kernel
theorem d_Codewords_prepareGenerator_51 : decode prog_2_method_17_code 51 = .ok (.aload_n 0, 1) := by decide +kernel
theorem d_Codewords_prepareGenerator_52 : decode prog_2_method_17_code 52 = .ok (.getfield 59, 3) := by decide +kernel
theorem d_Codewords_prepareGenerator_55 : decode prog_2_method_17_code 55 = .ok (.if_icmp .ge 45, 3) := by decide +kernel
theorem d_Codewords_prepareGenerator_58 : decode prog_2_method_17_code 58 = .ok (.aload_n 0, 1) := by decide +kernel
theorem d_Codewords_prepareGenerator_59 : decode prog_2_method_17_code 59 = .ok (.getfield 13, 3) := by decide +kernel
theorem d_Codewords_prepareGenerator_62 : decode prog_2_method_17_code 62 = .ok (.iload_n 2, 1) := by decide +kernel
theorem d_Codewords_prepareGenerator_63 : decode prog_2_method_17_code 63 = .ok (.aload_n 0, 1) := by decide +kernel
theorem d_Codewords_prepareGenerator_64 : decode prog_2_method_17_code 64 = .ok (.getfield 24, 3) := by decide +kernel
theorem d_Codewords_prepareGenerator_67 : decode prog_2_method_17_code 67 = .ok (.aload_n 0, 1) := by decide +kernel
theorem d_Codewords_prepareGenerator_68 : decode prog_2_method_17_code 68 = .ok (.getfield 13, 3) := by decide +kernel
theorem d_Codewords_prepareGenerator_71 : decode prog_2_method_17_code 71 = .ok (.iload_n 2, 1) := by decide +kernel
theorem d_Codewords_prepareGenerator_72 : decode prog_2_method_17_code 72 = .ok (.iaload, 1) := by decide +kernel
theorem d_Codewords_prepareGenerator_73 : decode prog_2_method_17_code 73 = .ok (.aload_n 0, 1) := by decide +kernel
theorem d_Codewords_prepareGenerator_74 : decode prog_2_method_17_code 74 = .ok (.getfield 24, 3) := by decide +kernel
theorem d_Codewords_prepareGenerator_77 : decode prog_2_method_17_code 77 = .ok (.iload_n 1, 1) := by decide +kernel
theorem d_Codewords_prepareGenerator_78 : decode prog_2_method_17_code 78 = .ok (.invokevirtual 127, 3) := by decide +kernel
theorem d_Codewords_prepareGenerator_81 : decode prog_2_method_17_code 81 = .ok (.invokevirtual 132, 3) := by decide +kernel
theorem d_Codewords_prepareGenerator_84 : decode prog_2_method_17_code 84 = .ok (.aload_n 0, 1) := by decide +kernel
theorem d_Codewords_prepareGenerator_85 : decode prog_2_method_17_code 85 = .ok (.getfield 13, 3) := by decide +kernel
theorem d_Codewords_prepareGenerator_88 : decode prog_2_method_17_code 88 = .ok (.iload_n 2, 1) := by decide +kernel
theorem d_Codewords_prepareGenerator_89 : decode prog_2_method_17_code 89 = .ok (.iconst 1, 1) := by decide +kernel
theorem d_Codewords_prepareGenerator_90 : decode prog_2_method_17_code 90 = .ok (.iadd, 1) := by decide +kernel
theorem d_Codewords_prepareGenerator_91 : decode prog_2_method_17_code 91 = .ok (.iaload, 1) := by decide +kernel
theorem d_Codewords_prepareGenerator_92 : decode prog_2_method_17_code 92 = .ok (.ixor, 1) := by decide +kernel
theorem d_Codewords_prepareGenerator_93 : decode prog_2_method_17_code 93 = .ok (.iastore, 1) := by decide +kernel
theorem d_Codewords_prepareGenerator_94 : decode prog_2_method_17_code 94 = .ok (.iinc 2 1, 3) := by decide +kernel
theorem d_Codewords_prepareGenerator_97 : decode prog_2_method_17_code 97 = .ok (.goto (-47), 3) := by decide +kernel
theorem d_Codewords_prepareGenerator_100 : decode prog_2_method_17_code 100 = .ok (.iinc 1 1, 3) := by decide +kernel
theorem d_Codewords_prepareGenerator_103 : decode prog_2_method_17_code 103 = .ok (.goto (-63), 3) := by decide +kernel
theorem d_Codewords_prepareGenerator_106 : decode prog_2_method_17_code 106 = .ok (.return_, 1) := by decide +kernel
theorem d_Codewords_addChecksOf_0 : decode prog_2_method_18_code 0 = .ok (.aload_n 0, 1) := by decide +kernel
theorem d_Codewords_addChecksOf_1 : decode prog_2_method_18_code 1 = .ok (.getfield 17, 3) := by decide +kernel
theorem d_Codewords_addChecksOf_4 : decode prog_2_method_18_code 4 = .ok (.iconst 0, 1) := by decide +kernel
theorem d_Codewords_addChecksOf_5 : decode prog_2_method_18_code 5 = .ok (.invokestatic 121, 3) := by decide +kernel
theorem d_Codewords_addChecksOf_8 : decode prog_2_method_18_code 8 = .ok (.aload_n 0, 1) := by decide +kernel
theorem d_Codewords_addChecksOf_9 : decode prog_2_method_18_code 9 = .ok (.iload_n 1, 1) := by decide +kernel
theorem d_Codewords_addChecksOf_10 : decode prog_2_method_18_code 10 = .ok (.invokevirtual 76, 3) := by decide +kernel
theorem d_Codewords_addChecksOf_13 : decode prog_2_method_18_code 13 = .ok (.istore_n 2, 1) := by decide +kernel
theorem d_Codewords_addChecksOf_14 : decode prog_2_method_18_code 14 = .ok (.iconst 0, 1) := by decide +kernel
theorem d_Codewords_addChecksOf_15 : decode prog_2_method_18_code 15 = .ok (.istore_n 3, 1) := by decide +kernel
theorem d_Codewords_addChecksOf_16 : decode prog_2_method_18_code 16 = .ok (.iload_n 3, 1) := by decide +kernel
theorem d_Codewords_addChecksOf_17 : decode prog_2_method_18_code 17 = .ok (.iload_n 2, 1) := by decide +kernel
theorem d_Codewords_addChecksOf_18 : decode prog_2_method_18_code 18 = .ok (.if_icmp .ge 86, 3) := by decide +kernel
theorem d_Codewords_addChecksOf_21 : decode prog_2_method_18_code 21 = .ok (.aload_n 0, 1) := by decide +kernel
theorem d_Codewords_addChecksOf_22 : decode prog_2_method_18_code 22 = .ok (.aload_n 0, 1) := by decide +kernel
theorem d_Codewords_addChecksOf_23 : decode prog_2_method_18_code 23 = .ok (.iload_n 1, 1) := by decide +kernel
theorem d_Codewords_addChecksOf_24 : decode prog_2_method_18_code 24 = .ok (.iload_n 3, 1) := by decide +kernel
theorem d_Codewords_addChecksOf_25 : decode prog_2_method_18_code 25 = .ok (.invokevirtual 82, 3) := by decide +kernel
theorem d_Codewords_addChecksOf_28 : decode prog_2_method_18_code 28 = .ok (.invokevirtual 135, 3) := by decide +kernel
theorem d_Codewords_addChecksOf_31 : decode prog_2_method_18_code 31 = .ok (.aload_n 0, 1) := by decide +kernel
theorem d_Codewords_addChecksOf_32 : decode prog_2_method_18_code 32 = .ok (.getfield 17, 3) := by decide +kernel
theorem d_Codewords_addChecksOf_35 : decode prog_2_method_18_code 35 = .ok (.iconst 0, 1) := by decide +kernel
theorem d_Codewords_addChecksOf_36 : decode prog_2_method_18_code 36 = .ok (.iaload, 1) := by decide +kernel
theorem d_Codewords_addChecksOf_37 : decode prog_2_method_18_code 37 = .ok (.ixor, 1) := by decide +kernel
theorem d_Codewords_addChecksOf_38 : decode prog_2_method_18_code 38 = .ok (.istore 4, 2) := by decide +kernel
theorem d_Codewords_addChecksOf_40 : decode prog_2_method_18_code 40 = .ok (.iconst 0, 1) := by decide +kernel
theorem d_Codewords_addChecksOf_41 : decode prog_2_method_18_code 41 = .ok (.istore 5, 2) := by decide +kernel
theorem d_Codewords_addChecksOf_43 : decode prog_2_method_18_code 43 = .ok (.iload 5, 2) := by decide +kernel
theorem d_Codewords_addChecksOf_45 : decode prog_2_method_18_code 45 = .ok (.aload_n 0, 1) := by decide +kernel
theorem d_Codewords_addChecksOf_46 : decode prog_2_method_18_code 46 = .ok (.getfield 59, 3) := by decide +kernel
theorem d_Codewords_addChecksOf_49 : decode prog_2_method_18_code 49 = .ok (.if_icmp .ge 49, 3) := by decide +kernel
theorem d_Codewords_addChecksOf_52 : decode prog_2_method_18_code 52 = .ok (.iload 5, 2) := by decide +kernel
theorem d_Codewords_addChecksOf_54 : decode prog_2_method_18_code 54 = .ok (.bipush 30, 2) := by decide +kernel
theorem d_Codewords_addChecksOf_56 : decode prog_2_method_18_code 56 = .ok (.if_icmp .ge 42, 3) := by decide +kernel
theorem d_Codewords_addChecksOf_59 : decode prog_2_method_18_code 59 = .ok (.aload_n 0, 1) := by decide +kernel
theorem d_Codewords_addChecksOf_60 : decode prog_2_method_18_code 60 = .ok (.getfield 17, 3) := by decide +kernel
theorem d_Codewords_addChecksOf_63 : decode prog_2_method_18_code 63 = .ok (.iload 5, 2) := by decide +kernel
theorem d_Codewords_addChecksOf_65 : decode prog_2_method_18_code 65 = .ok (.aload_n 0, 1) := by decide +kernel
theorem d_Codewords_addChecksOf_66 : decode prog_2_method_18_code 66 = .ok (.getfield 17, 3) := by decide +kernel
theorem d_Codewords_addChecksOf_69 : decode prog_2_method_18_code 69 = .ok (.iload 5, 2) := by decide +kernel
theorem d_Codewords_addChecksOf_71 : decode prog_2_method_18_code 71 = .ok (.iconst 1, 1) := by decide +kernel
theorem d_Codewords_addChecksOf_72 : decode prog_2_method_18_code 72 = .ok (.iadd, 1) := by decide +kernel
theorem d_Codewords_addChecksOf_73 : decode prog_2_method_18_code 73 = .ok (.iaload, 1) := by decide +kernel
theorem d_Codewords_addChecksOf_74 : decode prog_2_method_18_code 74 = .ok (.aload_n 0, 1) := by decide +kernel
theorem d_Codewords_addChecksOf_75 : decode prog_2_method_18_code 75 = .ok (.getfield 24, 3) := by decide +kernel
theorem d_Codewords_addChecksOf_78 : decode prog_2_method_18_code 78 = .ok (.aload_n 0, 1) := by decide +kernel
theorem d_Codewords_addChecksOf_79 : decode prog_2_method_18_code 79 = .ok (.getfield 13, 3) := by decide +kernel
theorem d_Codewords_addChecksOf_82 : decode prog_2_method_18_code 82 = .ok (.iload 5, 2) := by decide +kernel
theorem d_Codewords_addChecksOf_84 : decode prog_2_method_18_code 84 = .ok (.iaload, 1) := by decide +kernel
theorem d_Codewords_addChecksOf_85 : decode prog_2_method_18_code 85 = .ok (.iload 4, 2) := by decide +kernel
theorem d_Codewords_addChecksOf_87 : decode prog_2_method_18_code 87 = .ok (.invokevirtual 132, 3) := by decide +kernel
theorem d_Codewords_addChecksOf_90 : decode prog_2_method_18_code 90 = .ok (.ixor, 1) := by decide +kernel
theorem d_Codewords_addChecksOf_91 : decode prog_2_method_18_code 91 = .ok (.iastore, 1) := by decide +kernel
theorem d_Codewords_addChecksOf_92 : decode prog_2_method_18_code 92 = .ok (.iinc 5 1, 3) := by decide +kernel
theorem d_Codewords_addChecksOf_95 : decode prog_2_method_18_code 95 = .ok (.goto (-52), 3) := by decide +kernel
theorem d_Codewords_addChecksOf_98 : decode prog_2_method_18_code 98 = .ok (.iinc 3 1, 3) := by decide +kernel
theorem d_Codewords_addChecksOf_101 : decode prog_2_method_18_code 101 = .ok (.goto (-85), 3) := by decide +kernel
theorem d_Codewords_addChecksOf_104 : decode prog_2_method_18_code 104 = .ok (.iconst 0, 1) := by decide +kernel
theorem d_Codewords_addChecksOf_105 : decode prog_2_method_18_code 105 = .ok (.istore_n 3, 1) := by decide +kernel
theorem d_Codewords_addChecksOf_106 : decode prog_2_method_18_code 106 = .ok (.iload_n 3, 1) := by decide +kernel
theorem d_Codewords_addChecksOf_107 : decode prog_2_method_18_code 107 = .ok (.aload_n 0, 1) := by decide +kernel
theorem d_Codewords_addChecksOf_108 : decode prog_2_method_18_code 108 = .ok (.getfield 59, 3) := by decide +kernel
theorem d_Codewords_addChecksOf_111 : decode prog_2_method_18_code 111 = .ok (.if_icmp .ge 33, 3) := by decide +kernel
theorem d_Codewords_addChecksOf_114 : decode prog_2_method_18_code 114 = .ok (.iload_n 3, 1) := by decide +kernel
theorem d_Codewords_addChecksOf_115 : decode prog_2_method_18_code 115 = .ok (.bipush 30, 2) := by decide +kernel
theorem d_Codewords_addChecksOf_117 : decode prog_2_method_18_code 117 = .ok (.if_icmp .ge 27, 3) := by decide +kernel
theorem d_Codewords_addChecksOf_120 : decode prog_2_method_18_code 120 = .ok (.aload_n 0, 1) := by decide +kernel
theorem d_Codewords_addChecksOf_121 : decode prog_2_method_18_code 121 = .ok (.aload_n 0, 1) := by decide +kernel
theorem d_Codewords_addChecksOf_122 : decode prog_2_method_18_code 122 = .ok (.iload_n 1, 1) := by decide +kernel
theorem d_Codewords_addChecksOf_123 : decode prog_2_method_18_code 123 = .ok (.iload_n 2, 1) := by decide +kernel
theorem d_Codewords_addChecksOf_124 : decode prog_2_method_18_code 124 = .ok (.iload_n 3, 1) := by decide +kernel
theorem d_Codewords_addChecksOf_125 : decode prog_2_method_18_code 125 = .ok (.iadd, 1) := by decide +kernel
theorem d_Codewords_addChecksOf_126 : decode prog_2_method_18_code 126 = .ok (.invokevirtual 82, 3) := by decide +kernel
theorem d_Codewords_addChecksOf_129 : decode prog_2_method_18_code 129 = .ok (.aload_n 0, 1) := by decide +kernel
theorem d_Codewords_addChecksOf_130 : decode prog_2_method_18_code 130 = .ok (.getfield 17, 3) := by decide +kernel
theorem d_Codewords_addChecksOf_133 : decode prog_2_method_18_code 133 = .ok (.iload_n 3, 1) := by decide +kernel
theorem d_Codewords_addChecksOf_134 : decode prog_2_method_18_code 134 = .ok (.iaload, 1) := by decide +kernel
theorem d_Codewords_addChecksOf_135 : decode prog_2_method_18_code 135 = .ok (.invokevirtual 111, 3) := by decide +kernel
theorem d_Codewords_addChecksOf_138 : decode prog_2_method_18_code 138 = .ok (.iinc 3 1, 3) := by decide +kernel
theorem d_Codewords_addChecksOf_141 : decode prog_2_method_18_code 141 = .ok (.goto (-35), 3) := by decide +kernel
theorem d_Codewords_addChecksOf_144 : decode prog_2_method_18_code 144 = .ok (.return_, 1) := by decide +kernel
abbrev y_Mender_init : MethodName := ⟨"SquareSymbols$Mender", "<init>", "(LSquareSymbols$Field;)V"⟩
abbrev w_Mender_init : List Cond := .code y_Mender_init prog_8_method_1_code 2 none :: lw_g
abbrev y_Mender_mendAll : MethodName := ⟨"SquareSymbols$Mender", "mendAll", "(LSquareSymbols$Codewords;I)I"⟩
abbrev w_Mender_mendAll : List Cond := .code y_Mender_mendAll prog_8_method_2_code 6 (some .int) :: lw_g
abbrev y_Mender_mend : MethodName := ⟨"SquareSymbols$Mender", "mend", "(LSquareSymbols$Codewords;II)I"⟩
abbrev w_Mender_mend : List Cond := .code y_Mender_mend prog_8_method_3_code 9 (some .int) :: lw_g
abbrev y_Mender_findSyndromes : MethodName := ⟨"SquareSymbols$Mender", "findSyndromes", "(II)Z"⟩
abbrev w_Mender_findSyndromes : List Cond := .code y_Mender_findSyndromes prog_8_method_4_code 5 (some .boolean) :: lw_g
abbrev y_Mender_findLocator : MethodName := ⟨"SquareSymbols$Mender", "findLocator", "(I)I"⟩
abbrev w_Mender_findLocator : List Cond := .code y_Mender_findLocator prog_8_method_5_code 7 (some .int) :: lw_g
abbrev y_Mender_missAt : MethodName := ⟨"SquareSymbols$Mender", "missAt", "(II)I"⟩
abbrev w_Mender_missAt : List Cond := .code y_Mender_missAt prog_8_method_6_code 5 (some .int) :: lw_g
abbrev y_Mender_addOlder : MethodName := ⟨"SquareSymbols$Mender", "addOlder", "(II)V"⟩
abbrev w_Mender_addOlder : List Cond := .code y_Mender_addOlder prog_8_method_7_code 4 none :: lw_g
abbrev y_Mender_findPlaces : MethodName := ⟨"SquareSymbols$Mender", "findPlaces", "(II)I"⟩
abbrev w_Mender_findPlaces : List Cond := .code y_Mender_findPlaces prog_8_method_8_code 5 (some .int) :: lw_g
abbrev y_Mender_findEvaluator : MethodName := ⟨"SquareSymbols$Mender", "findEvaluator", "(I)V"⟩
abbrev w_Mender_findEvaluator : List Cond := .code y_Mender_findEvaluator prog_8_method_9_code 3 none :: lw_g
abbrev y_Mender_difference : MethodName := ⟨"SquareSymbols$Mender", "difference", "(II)I"⟩
abbrev w_Mender_difference : List Cond := .code y_Mender_difference prog_8_method_10_code 7 (some .int) :: lw_g
theorem d_Mender_init_0 : decode prog_8_method_1_code 0 = .ok (.aload_n 0, 1) := by decide +kernel
theorem d_Mender_init_1 : decode prog_8_method_1_code 1 = .ok (.invokespecial 3, 3) := by decide +kernel
theorem d_Mender_init_4 : decode prog_8_method_1_code 4 = .ok (.aload_n 0, 1) := by decide +kernel
theorem d_Mender_init_5 : decode prog_8_method_1_code 5 = .ok (.sipush 255, 3) := by decide +kernel
theorem d_Mender_init_8 : decode prog_8_method_1_code 8 = .ok (.newarray .int, 2) := by decide +kernel
theorem d_Mender_init_10 : decode prog_8_method_1_code 10 = .ok (.putfield 11, 3) := by decide +kernel
theorem d_Mender_init_13 : decode prog_8_method_1_code 13 = .ok (.aload_n 0, 1) := by decide +kernel
theorem d_Mender_init_14 : decode prog_8_method_1_code 14 = .ok (.bipush 32, 2) := by decide +kernel
theorem d_Mender_init_16 : decode prog_8_method_1_code 16 = .ok (.newarray .int, 2) := by decide +kernel
theorem d_Mender_init_18 : decode prog_8_method_1_code 18 = .ok (.putfield 15, 3) := by decide +kernel
theorem d_Mender_init_21 : decode prog_8_method_1_code 21 = .ok (.aload_n 0, 1) := by decide +kernel
theorem d_Mender_init_22 : decode prog_8_method_1_code 22 = .ok (.bipush 32, 2) := by decide +kernel
theorem d_Mender_init_24 : decode prog_8_method_1_code 24 = .ok (.newarray .int, 2) := by decide +kernel
theorem d_Mender_init_26 : decode prog_8_method_1_code 26 = .ok (.putfield 18, 3) := by decide +kernel
theorem d_Mender_init_29 : decode prog_8_method_1_code 29 = .ok (.aload_n 0, 1) := by decide +kernel
theorem d_Mender_init_30 : decode prog_8_method_1_code 30 = .ok (.bipush 32, 2) := by decide +kernel
theorem d_Mender_init_32 : decode prog_8_method_1_code 32 = .ok (.newarray .int, 2) := by decide +kernel
theorem d_Mender_init_34 : decode prog_8_method_1_code 34 = .ok (.putfield 21, 3) := by decide +kernel
theorem d_Mender_init_37 : decode prog_8_method_1_code 37 = .ok (.aload_n 0, 1) := by decide +kernel
theorem d_Mender_init_38 : decode prog_8_method_1_code 38 = .ok (.bipush 32, 2) := by decide +kernel
theorem d_Mender_init_40 : decode prog_8_method_1_code 40 = .ok (.newarray .int, 2) := by decide +kernel
theorem d_Mender_init_42 : decode prog_8_method_1_code 42 = .ok (.putfield 24, 3) := by decide +kernel
theorem d_Mender_init_45 : decode prog_8_method_1_code 45 = .ok (.aload_n 0, 1) := by decide +kernel
theorem d_Mender_init_46 : decode prog_8_method_1_code 46 = .ok (.bipush 32, 2) := by decide +kernel
theorem d_Mender_init_48 : decode prog_8_method_1_code 48 = .ok (.newarray .int, 2) := by decide +kernel
theorem d_Mender_init_50 : decode prog_8_method_1_code 50 = .ok (.putfield 27, 3) := by decide +kernel
theorem d_Mender_init_53 : decode prog_8_method_1_code 53 = .ok (.aload_n 0, 1) := by decide +kernel
theorem d_Mender_init_54 : decode prog_8_method_1_code 54 = .ok (.bipush 32, 2) := by decide +kernel
theorem d_Mender_init_56 : decode prog_8_method_1_code 56 = .ok (.newarray .int, 2) := by decide +kernel
theorem d_Mender_init_58 : decode prog_8_method_1_code 58 = .ok (.putfield 30, 3) := by decide +kernel
theorem d_Mender_init_61 : decode prog_8_method_1_code 61 = .ok (.aload_n 0, 1) := by decide +kernel
theorem d_Mender_init_62 : decode prog_8_method_1_code 62 = .ok (.aload_n 1, 1) := by decide +kernel
theorem d_Mender_init_63 : decode prog_8_method_1_code 63 = .ok (.putfield 33, 3) := by decide +kernel
theorem d_Mender_init_66 : decode prog_8_method_1_code 66 = .ok (.return_, 1) := by decide +kernel
theorem d_Mender_mendAll_0 : decode prog_8_method_2_code 0 = .ok (.iconst 0, 1) := by decide +kernel
theorem d_Mender_mendAll_1 : decode prog_8_method_2_code 1 = .ok (.istore_n 3, 1) := by decide +kernel
theorem d_Mender_mendAll_2 : decode prog_8_method_2_code 2 = .ok (.iconst 0, 1) := by decide +kernel
theorem d_Mender_mendAll_3 : decode prog_8_method_2_code 3 = .ok (.istore 4, 2) := by decide +kernel
theorem d_Mender_mendAll_5 : decode prog_8_method_2_code 5 = .ok (.iload 4, 2) := by decide +kernel
theorem d_Mender_mendAll_7 : decode prog_8_method_2_code 7 = .ok (.aload_n 1, 1) := by decide +kernel
theorem d_Mender_mendAll_8 : decode prog_8_method_2_code 8 = .ok (.invokevirtual 37, 3) := by decide +kernel
theorem d_Mender_mendAll_11 : decode prog_8_method_2_code 11 = .ok (.if_icmp .ge 32, 3) := by decide +kernel
theorem d_Mender_mendAll_14 : decode prog_8_method_2_code 14 = .ok (.aload_n 0, 1) := by decide +kernel
theorem d_Mender_mendAll_15 : decode prog_8_method_2_code 15 = .ok (.aload_n 1, 1) := by decide +kernel
theorem d_Mender_mendAll_16 : decode prog_8_method_2_code 16 = .ok (.iload 4, 2) := by decide +kernel
theorem d_Mender_mendAll_18 : decode prog_8_method_2_code 18 = .ok (.iload_n 2, 1) := by decide +kernel
theorem d_Mender_mendAll_19 : decode prog_8_method_2_code 19 = .ok (.invokevirtual 43, 3) := by decide +kernel
theorem d_Mender_mendAll_22 : decode prog_8_method_2_code 22 = .ok (.istore 5, 2) := by decide +kernel
theorem d_Mender_mendAll_24 : decode prog_8_method_2_code 24 = .ok (.iload 5, 2) := by decide +kernel
theorem d_Mender_mendAll_26 : decode prog_8_method_2_code 26 = .ok (.iconst (-1), 1) := by decide +kernel
theorem d_Mender_mendAll_27 : decode prog_8_method_2_code 27 = .ok (.if_icmp .ne 5, 3) := by decide +kernel
theorem d_Mender_mendAll_30 : decode prog_8_method_2_code 30 = .ok (.iconst (-1), 1) := by decide +kernel
theorem d_Mender_mendAll_31 : decode prog_8_method_2_code 31 = .ok (.ireturn, 1) := by decide +kernel
theorem d_Mender_mendAll_32 : decode prog_8_method_2_code 32 = .ok (.iload_n 3, 1) := by decide +kernel
theorem d_Mender_mendAll_33 : decode prog_8_method_2_code 33 = .ok (.iload 5, 2) := by decide +kernel
theorem d_Mender_mendAll_35 : decode prog_8_method_2_code 35 = .ok (.iadd, 1) := by decide +kernel
theorem d_Mender_mendAll_36 : decode prog_8_method_2_code 36 = .ok (.istore_n 3, 1) := by decide +kernel
theorem d_Mender_mendAll_37 : decode prog_8_method_2_code 37 = .ok (.iinc 4 1, 3) := by decide +kernel
theorem d_Mender_mendAll_40 : decode prog_8_method_2_code 40 = .ok (.goto (-35), 3) := by decide +kernel
theorem d_Mender_mendAll_43 : decode prog_8_method_2_code 43 = .ok (.iload_n 3, 1) := by decide +kernel
theorem d_Mender_mendAll_44 : decode prog_8_method_2_code 44 = .ok (.ireturn, 1) := by decide +kernel
theorem d_Mender_mend_0 : decode prog_8_method_3_code 0 = .ok (.aload_n 1, 1) := by decide +kernel
theorem d_Mender_mend_1 : decode prog_8_method_3_code 1 = .ok (.invokevirtual 47, 3) := by decide +kernel
theorem d_Mender_mend_4 : decode prog_8_method_3_code 4 = .ok (.bipush 32, 2) := by decide +kernel
theorem d_Mender_mend_6 : decode prog_8_method_3_code 6 = .ok (.invokestatic 50, 3) := by decide +kernel
theorem d_Mender_mend_9 : decode prog_8_method_3_code 9 = .ok (.istore 4, 2) := by decide +kernel
theorem d_Mender_mend_11 : decode prog_8_method_3_code 11 = .ok (.aload_n 1, 1) := by decide +kernel
theorem d_Mender_mend_12 : decode prog_8_method_3_code 12 = .ok (.iload_n 2, 1) := by decide +kernel
theorem d_Mender_mend_13 : decode prog_8_method_3_code 13 = .ok (.invokevirtual 56, 3) := by decide +kernel
theorem d_Mender_mend_16 : decode prog_8_method_3_code 16 = .ok (.iload 4, 2) := by decide +kernel
theorem d_Mender_mend_18 : decode prog_8_method_3_code 18 = .ok (.iadd, 1) := by decide +kernel
theorem d_Mender_mend_19 : decode prog_8_method_3_code 19 = .ok (.sipush 255, 3) := by decide +kernel
theorem d_Mender_mend_22 : decode prog_8_method_3_code 22 = .ok (.invokestatic 50, 3) := by decide +kernel
theorem d_Mender_mend_25 : decode prog_8_method_3_code 25 = .ok (.istore 5, 2) := by decide +kernel
theorem d_Mender_mend_27 : decode prog_8_method_3_code 27 = .ok (.iconst 0, 1) := by decide +kernel
theorem d_Mender_mend_28 : decode prog_8_method_3_code 28 = .ok (.istore 6, 2) := by decide +kernel
theorem d_Mender_mend_30 : decode prog_8_method_3_code 30 = .ok (.iload 6, 2) := by decide +kernel
theorem d_Mender_mend_32 : decode prog_8_method_3_code 32 = .ok (.iload 5, 2) := by decide +kernel
theorem d_Mender_mend_34 : decode prog_8_method_3_code 34 = .ok (.if_icmp .ge 32, 3) := by decide +kernel
theorem d_Mender_mend_37 : decode prog_8_method_3_code 37 = .ok (.aload_n 0, 1) := by decide +kernel
theorem d_Mender_mend_38 : decode prog_8_method_3_code 38 = .ok (.getfield 11, 3) := by decide +kernel
theorem d_Mender_mend_41 : decode prog_8_method_3_code 41 = .ok (.iload 6, 2) := by decide +kernel
theorem d_Mender_mend_43 : decode prog_8_method_3_code 43 = .ok (.aload_n 1, 1) := by decide +kernel
theorem d_Mender_mend_44 : decode prog_8_method_3_code 44 = .ok (.aload_n 1, 1) := by decide +kernel
theorem d_Mender_mend_45 : decode prog_8_method_3_code 45 = .ok (.iload_n 2, 1) := by decide +kernel
theorem d_Mender_mend_46 : decode prog_8_method_3_code 46 = .ok (.iload 5, 2) := by decide +kernel
theorem d_Mender_mend_48 : decode prog_8_method_3_code 48 = .ok (.iconst 1, 1) := by decide +kernel
theorem d_Mender_mend_49 : decode prog_8_method_3_code 49 = .ok (.isub, 1) := by decide +kernel
theorem d_Mender_mend_50 : decode prog_8_method_3_code 50 = .ok (.iload 6, 2) := by decide +kernel
theorem d_Mender_mend_52 : decode prog_8_method_3_code 52 = .ok (.isub, 1) := by decide +kernel
theorem d_Mender_mend_53 : decode prog_8_method_3_code 53 = .ok (.invokevirtual 60, 3) := by decide +kernel
theorem d_Mender_mend_56 : decode prog_8_method_3_code 56 = .ok (.invokevirtual 63, 3) := by decide +kernel
theorem d_Mender_mend_59 : decode prog_8_method_3_code 59 = .ok (.iastore, 1) := by decide +kernel
theorem d_Mender_mend_60 : decode prog_8_method_3_code 60 = .ok (.iinc 6 1, 3) := by decide +kernel
theorem d_Mender_mend_63 : decode prog_8_method_3_code 63 = .ok (.goto (-33), 3) := by decide +kernel
theorem d_Mender_mend_66 : decode prog_8_method_3_code 66 = .ok (.aload_n 0, 1) := by decide +kernel
theorem d_Mender_mend_67 : decode prog_8_method_3_code 67 = .ok (.iload 5, 2) := by decide +kernel
theorem d_Mender_mend_69 : decode prog_8_method_3_code 69 = .ok (.iload 4, 2) := by decide +kernel
theorem d_Mender_mend_71 : decode prog_8_method_3_code 71 = .ok (.invokevirtual 66, 3) := by decide +kernel
theorem d_Mender_mend_74 : decode prog_8_method_3_code 74 = .ok (.ifCond .ne 5, 3) := by decide +kernel
theorem d_Mender_mend_77 : decode prog_8_method_3_code 77 = .ok (.iconst 0, 1) := by decide +kernel
theorem d_Mender_mend_78 : decode prog_8_method_3_code 78 = .ok (.ireturn, 1) := by decide +kernel
theorem d_Mender_mend_79 : decode prog_8_method_3_code 79 = .ok (.aload_n 0, 1) := by decide +kernel
theorem d_Mender_mend_80 : decode prog_8_method_3_code 80 = .ok (.iload 4, 2) := by decide +kernel
theorem d_Mender_mend_82 : decode prog_8_method_3_code 82 = .ok (.invokevirtual 70, 3) := by decide +kernel
theorem d_Mender_mend_85 : decode prog_8_method_3_code 85 = .ok (.istore 6, 2) := by decide +kernel
theorem d_Mender_mend_87 : decode prog_8_method_3_code 87 = .ok (.iload 6, 2) := by decide +kernel
theorem d_Mender_mend_89 : decode prog_8_method_3_code 89 = .ok (.iload_n 3, 1) := by decide +kernel
theorem d_Mender_mend_90 : decode prog_8_method_3_code 90 = .ok (.if_icmp .gt 16, 3) := by decide +kernel
theorem d_Mender_mend_93 : decode prog_8_method_3_code 93 = .ok (.aload_n 0, 1) := by decide +kernel
theorem d_Mender_mend_94 : decode prog_8_method_3_code 94 = .ok (.iload 5, 2) := by decide +kernel
theorem d_Mender_mend_96 : decode prog_8_method_3_code 96 = .ok (.iload 6, 2) := by decide +kernel
theorem d_Mender_mend_98 : decode prog_8_method_3_code 98 = .ok (.invokevirtual 73, 3) := by decide +kernel
theorem d_Mender_mend_101 : decode prog_8_method_3_code 101 = .ok (.iload 6, 2) := by decide +kernel
theorem d_Mender_mend_103 : decode prog_8_method_3_code 103 = .ok (.if_icmp .eq 5, 3) := by decide +kernel
theorem d_Mender_mend_106 : decode prog_8_method_3_code 106 = .ok (.iconst (-1), 1) := by decide +kernel
theorem d_Mender_mend_107 : decode prog_8_method_3_code 107 = .ok (.ireturn, 1) := by decide +kernel
theorem d_Mender_mend_108 : decode prog_8_method_3_code 108 = .ok (.aload_n 0, 1) := by decide +kernel
theorem d_Mender_mend_109 : decode prog_8_method_3_code 109 = .ok (.iload 6, 2) := by decide +kernel
theorem d_Mender_mend_111 : decode prog_8_method_3_code 111 = .ok (.invokevirtual 76, 3) := by decide +kernel
theorem d_Mender_mend_114 : decode prog_8_method_3_code 114 = .ok (.iconst 0, 1) := by decide +kernel
theorem d_Mender_mend_115 : decode prog_8_method_3_code 115 = .ok (.istore 7, 2) := by decide +kernel
theorem d_Mender_mend_117 : decode prog_8_method_3_code 117 = .ok (.iload 7, 2) := by decide +kernel
theorem d_Mender_mend_119 : decode prog_8_method_3_code 119 = .ok (.iload 6, 2) := by decide +kernel
theorem d_Mender_mend_121 : decode prog_8_method_3_code 121 = .ok (.if_icmp .ge 64, 3) := by decide +kernel
theorem d_Mender_mend_124 : decode prog_8_method_3_code 124 = .ok (.iload 7, 2) := by decide +kernel
theorem d_Mender_mend_126 : decode prog_8_method_3_code 126 = .ok (.aload_n 0, 1) := by decide +kernel
theorem d_Mender_mend_127 : decode prog_8_method_3_code 127 = .ok (.getfield 30, 3) := by decide +kernel
theorem d_Mender_mend_130 : decode prog_8_method_3_code 130 = .ok (.arraylength, 1) := by decide +kernel
theorem d_Mender_mend_131 : decode prog_8_method_3_code 131 = .ok (.if_icmp .ge 54, 3) := by decide +kernel
theorem d_Mender_mend_134 : decode prog_8_method_3_code 134 = .ok (.aload_n 1, 1) := by decide +kernel
theorem d_Mender_mend_135 : decode prog_8_method_3_code 135 = .ok (.iload_n 2, 1) := by decide +kernel
theorem d_Mender_mend_136 : decode prog_8_method_3_code 136 = .ok (.iload 5, 2) := by decide +kernel
theorem d_Mender_mend_138 : decode prog_8_method_3_code 138 = .ok (.iconst 1, 1) := by decide +kernel
theorem d_Mender_mend_139 : decode prog_8_method_3_code 139 = .ok (.isub, 1) := by decide +kernel
theorem d_Mender_mend_140 : decode prog_8_method_3_code 140 = .ok (.aload_n 0, 1) := by decide +kernel
theorem d_Mender_mend_141 : decode prog_8_method_3_code 141 = .ok (.getfield 30, 3) := by decide +kernel
theorem d_Mender_mend_144 : decode prog_8_method_3_code 144 = .ok (.iload 7, 2) := by decide +kernel
theorem d_Mender_mend_146 : decode prog_8_method_3_code 146 = .ok (.iaload, 1) := by decide +kernel
theorem d_Mender_mend_147 : decode prog_8_method_3_code 147 = .ok (.isub, 1) := by decide +kernel
theorem d_Mender_mend_148 : decode prog_8_method_3_code 148 = .ok (.invokevirtual 60, 3) := by decide +kernel
theorem d_Mender_mend_151 : decode prog_8_method_3_code 151 = .ok (.istore 8, 2) := by decide +kernel
theorem d_Mender_mend_153 : decode prog_8_method_3_code 153 = .ok (.aload_n 1, 1) := by decide +kernel
theorem d_Mender_mend_154 : decode prog_8_method_3_code 154 = .ok (.iload 8, 2) := by decide +kernel
theorem d_Mender_mend_156 : decode prog_8_method_3_code 156 = .ok (.aload_n 1, 1) := by decide +kernel
theorem d_Mender_mend_157 : decode prog_8_method_3_code 157 = .ok (.iload 8, 2) := by decide +kernel
theorem d_Mender_mend_159 : decode prog_8_method_3_code 159 = .ok (.invokevirtual 63, 3) := by decide +kernel
theorem d_Mender_mend_162 : decode prog_8_method_3_code 162 = .ok (.aload_n 0, 1) := by decide +kernel
theorem d_Mender_mend_163 : decode prog_8_method_3_code 163 = .ok (.aload_n 0, 1) := by decide +kernel
theorem d_Mender_mend_164 : decode prog_8_method_3_code 164 = .ok (.getfield 30, 3) := by decide +kernel
theorem d_Mender_mend_167 : decode prog_8_method_3_code 167 = .ok (.iload 7, 2) := by decide +kernel
theorem d_Mender_mend_169 : decode prog_8_method_3_code 169 = .ok (.iaload, 1) := by decide +kernel
theorem d_Mender_mend_170 : decode prog_8_method_3_code 170 = .ok (.iload 6, 2) := by decide +kernel
theorem d_Mender_mend_172 : decode prog_8_method_3_code 172 = .ok (.invokevirtual 80, 3) := by decide +kernel
theorem d_Mender_mend_175 : decode prog_8_method_3_code 175 = .ok (.ixor, 1) := by decide +kernel
theorem d_Mender_mend_176 : decode prog_8_method_3_code 176 = .ok (.invokevirtual 83, 3) := by decide +kernel
theorem d_Mender_mend_179 : decode prog_8_method_3_code 179 = .ok (.iinc 7 1, 3) := by decide +kernel
theorem d_Mender_mend_182 : decode prog_8_method_3_code 182 = .ok (.goto (-65), 3) := by decide +kernel
theorem d_Mender_mend_185 : decode prog_8_method_3_code 185 = .ok (.iload 6, 2) := by decide +kernel
theorem d_Mender_mend_187 : decode prog_8_method_3_code 187 = .ok (.ireturn, 1) := by decide +kernel
theorem d_Mender_findSyndromes_0 : decode prog_8_method_4_code 0 = .ok (.iconst 0, 1) := by decide +kernel
theorem d_Mender_findSyndromes_1 : decode prog_8_method_4_code 1 = .ok (.istore_n 3, 1) := by decide +kernel
theorem d_Mender_findSyndromes_2 : decode prog_8_method_4_code 2 = .ok (.iconst 0, 1) := by decide +kernel
theorem d_Mender_findSyndromes_3 : decode prog_8_method_4_code 3 = .ok (.istore 4, 2) := by decide +kernel
theorem d_Mender_findSyndromes_5 : decode prog_8_method_4_code 5 = .ok (.iload 4, 2) := by decide +kernel
theorem d_Mender_findSyndromes_7 : decode prog_8_method_4_code 7 = .ok (.iload_n 2, 1) := by decide +kernel
theorem d_Mender_findSyndromes_8 : decode prog_8_method_4_code 8 = .ok (.if_icmp .ge 57, 3) := by decide +kernel
theorem d_Mender_findSyndromes_11 : decode prog_8_method_4_code 11 = .ok (.iload 4, 2) := by decide +kernel
theorem d_Mender_findSyndromes_13 : decode prog_8_method_4_code 13 = .ok (.aload_n 0, 1) := by decide +kernel
theorem d_Mender_findSyndromes_14 : decode prog_8_method_4_code 14 = .ok (.getfield 15, 3) := by decide +kernel
theorem d_Mender_findSyndromes_17 : decode prog_8_method_4_code 17 = .ok (.arraylength, 1) := by decide +kernel
theorem d_Mender_findSyndromes_18 : decode prog_8_method_4_code 18 = .ok (.if_icmp .ge 47, 3) := by decide +kernel
theorem d_Mender_findSyndromes_21 : decode prog_8_method_4_code 21 = .ok (.aload_n 0, 1) := by decide +kernel
theorem d_Mender_findSyndromes_22 : decode prog_8_method_4_code 22 = .ok (.getfield 15, 3) := by decide +kernel
theorem d_Mender_findSyndromes_25 : decode prog_8_method_4_code 25 = .ok (.iload 4, 2) := by decide +kernel
theorem d_Mender_findSyndromes_27 : decode prog_8_method_4_code 27 = .ok (.aload_n 0, 1) := by decide +kernel
theorem d_Mender_findSyndromes_28 : decode prog_8_method_4_code 28 = .ok (.getfield 33, 3) := by decide +kernel
theorem d_Mender_findSyndromes_31 : decode prog_8_method_4_code 31 = .ok (.aload_n 0, 1) := by decide +kernel
theorem d_Mender_findSyndromes_32 : decode prog_8_method_4_code 32 = .ok (.getfield 11, 3) := by decide +kernel
theorem d_Mender_findSyndromes_35 : decode prog_8_method_4_code 35 = .ok (.iload_n 1, 1) := by decide +kernel
theorem d_Mender_findSyndromes_36 : decode prog_8_method_4_code 36 = .ok (.aload_n 0, 1) := by decide +kernel
theorem d_Mender_findSyndromes_37 : decode prog_8_method_4_code 37 = .ok (.getfield 33, 3) := by decide +kernel
theorem d_Mender_findSyndromes_40 : decode prog_8_method_4_code 40 = .ok (.iload 4, 2) := by decide +kernel
theorem d_Mender_findSyndromes_42 : decode prog_8_method_4_code 42 = .ok (.invokevirtual 87, 3) := by decide +kernel
theorem d_Mender_findSyndromes_45 : decode prog_8_method_4_code 45 = .ok (.invokevirtual 92, 3) := by decide +kernel
theorem d_Mender_findSyndromes_48 : decode prog_8_method_4_code 48 = .ok (.iastore, 1) := by decide +kernel
theorem d_Mender_findSyndromes_49 : decode prog_8_method_4_code 49 = .ok (.iload_n 3, 1) := by decide +kernel
theorem d_Mender_findSyndromes_50 : decode prog_8_method_4_code 50 = .ok (.aload_n 0, 1) := by decide +kernel
theorem d_Mender_findSyndromes_51 : decode prog_8_method_4_code 51 = .ok (.getfield 15, 3) := by decide +kernel
theorem d_Mender_findSyndromes_54 : decode prog_8_method_4_code 54 = .ok (.iload 4, 2) := by decide +kernel
theorem d_Mender_findSyndromes_56 : decode prog_8_method_4_code 56 = .ok (.iaload, 1) := by decide +kernel
theorem d_Mender_findSyndromes_57 : decode prog_8_method_4_code 57 = .ok (.ior, 1) := by decide +kernel
theorem d_Mender_findSyndromes_58 : decode prog_8_method_4_code 58 = .ok (.istore_n 3, 1) := by decide +kernel
theorem d_Mender_findSyndromes_59 : decode prog_8_method_4_code 59 = .ok (.iinc 4 1, 3) := by decide +kernel
theorem d_Mender_findSyndromes_62 : decode prog_8_method_4_code 62 = .ok (.goto (-57), 3) := by decide +kernel
theorem d_Mender_findSyndromes_65 : decode prog_8_method_4_code 65 = .ok (.iload_n 3, 1) := by decide +kernel
theorem d_Mender_findSyndromes_66 : decode prog_8_method_4_code 66 = .ok (.ifCond .eq 7, 3) := by decide +kernel
theorem d_Mender_findSyndromes_69 : decode prog_8_method_4_code 69 = .ok (.iconst 1, 1) := by decide +kernel
theorem d_Mender_findSyndromes_70 : decode prog_8_method_4_code 70 = .ok (.goto 4, 3) := by decide +kernel
theorem d_Mender_findSyndromes_73 : decode prog_8_method_4_code 73 = .ok (.iconst 0, 1) := by decide +kernel
theorem d_Mender_findSyndromes_74 : decode prog_8_method_4_code 74 = .ok (.ireturn, 1) := by decide +kernel
theorem d_Mender_findLocator_0 : decode prog_8_method_5_code 0 = .ok (.aload_n 0, 1) := by decide +kernel
theorem d_Mender_findLocator_1 : decode prog_8_method_5_code 1 = .ok (.getfield 18, 3) := by decide +kernel
theorem d_Mender_findLocator_4 : decode prog_8_method_5_code 4 = .ok (.iconst 0, 1) := by decide +kernel
theorem d_Mender_findLocator_5 : decode prog_8_method_5_code 5 = .ok (.invokestatic 96, 3) := by decide +kernel
theorem d_Mender_findLocator_8 : decode prog_8_method_5_code 8 = .ok (.aload_n 0, 1) := by decide +kernel
theorem d_Mender_findLocator_9 : decode prog_8_method_5_code 9 = .ok (.getfield 21, 3) := by decide +kernel
theorem d_Mender_findLocator_12 : decode prog_8_method_5_code 12 = .ok (.iconst 0, 1) := by decide +kernel
theorem d_Mender_findLocator_13 : decode prog_8_method_5_code 13 = .ok (.invokestatic 96, 3) := by decide +kernel
theorem d_Mender_findLocator_16 : decode prog_8_method_5_code 16 = .ok (.aload_n 0, 1) := by decide +kernel
theorem d_Mender_findLocator_17 : decode prog_8_method_5_code 17 = .ok (.getfield 18, 3) := by decide +kernel
theorem d_Mender_findLocator_20 : decode prog_8_method_5_code 20 = .ok (.iconst 0, 1) := by decide +kernel
theorem d_Mender_findLocator_21 : decode prog_8_method_5_code 21 = .ok (.iconst 1, 1) := by decide +kernel
theorem d_Mender_findLocator_22 : decode prog_8_method_5_code 22 = .ok (.iastore, 1) := by decide +kernel
theorem d_Mender_findLocator_23 : decode prog_8_method_5_code 23 = .ok (.aload_n 0, 1) := by decide +kernel
theorem d_Mender_findLocator_24 : decode prog_8_method_5_code 24 = .ok (.getfield 21, 3) := by decide +kernel
theorem d_Mender_findLocator_27 : decode prog_8_method_5_code 27 = .ok (.iconst 0, 1) := by decide +kernel
theorem d_Mender_findLocator_28 : decode prog_8_method_5_code 28 = .ok (.iconst 1, 1) := by decide +kernel
theorem d_Mender_findLocator_29 : decode prog_8_method_5_code 29 = .ok (.iastore, 1) := by decide +kernel
theorem d_Mender_findLocator_30 : decode prog_8_method_5_code 30 = .ok (.iconst 0, 1) := by decide +kernel
theorem d_Mender_findLocator_31 : decode prog_8_method_5_code 31 = .ok (.istore_n 2, 1) := by decide +kernel
theorem d_Mender_findLocator_32 : decode prog_8_method_5_code 32 = .ok (.iconst 1, 1) := by decide +kernel
theorem d_Mender_findLocator_33 : decode prog_8_method_5_code 33 = .ok (.istore_n 3, 1) := by decide +kernel
theorem d_Mender_findLocator_34 : decode prog_8_method_5_code 34 = .ok (.iconst 1, 1) := by decide +kernel
theorem d_Mender_findLocator_35 : decode prog_8_method_5_code 35 = .ok (.istore 4, 2) := by decide +kernel
theorem d_Mender_findLocator_37 : decode prog_8_method_5_code 37 = .ok (.iconst 0, 1) := by decide +kernel
theorem d_Mender_findLocator_38 : decode prog_8_method_5_code 38 = .ok (.istore 5, 2) := by decide +kernel
theorem d_Mender_findLocator_40 : decode prog_8_method_5_code 40 = .ok (.iload 5, 2) := by decide +kernel
theorem d_Mender_findLocator_42 : decode prog_8_method_5_code 42 = .ok (.iload_n 1, 1) := by decide +kernel
theorem d_Mender_findLocator_43 : decode prog_8_method_5_code 43 = .ok (.if_icmp .ge 99, 3) := by decide +kernel
theorem d_Mender_findLocator_46 : decode prog_8_method_5_code 46 = .ok (.aload_n 0, 1) := by decide +kernel
theorem d_Mender_findLocator_47 : decode prog_8_method_5_code 47 = .ok (.iload 5, 2) := by decide +kernel
theorem d_Mender_findLocator_49 : decode prog_8_method_5_code 49 = .ok (.iload_n 2, 1) := by decide +kernel
theorem d_Mender_findLocator_50 : decode prog_8_method_5_code 50 = .ok (.invokevirtual 102, 3) := by decide +kernel
theorem d_Mender_findLocator_53 : decode prog_8_method_5_code 53 = .ok (.istore 6, 2) := by decide +kernel
theorem d_Mender_findLocator_55 : decode prog_8_method_5_code 55 = .ok (.iload 6, 2) := by decide +kernel
theorem d_Mender_findLocator_57 : decode prog_8_method_5_code 57 = .ok (.ifCond .ne 9, 3) := by decide +kernel
theorem d_Mender_findLocator_60 : decode prog_8_method_5_code 60 = .ok (.iinc 3 1, 3) := by decide +kernel
theorem d_Mender_findLocator_63 : decode prog_8_method_5_code 63 = .ok (.goto 73, 3) := by decide +kernel
theorem d_Mender_findLocator_66 : decode prog_8_method_5_code 66 = .ok (.aload_n 0, 1) := by decide +kernel
theorem d_Mender_findLocator_67 : decode prog_8_method_5_code 67 = .ok (.getfield 18, 3) := by decide +kernel
theorem d_Mender_findLocator_70 : decode prog_8_method_5_code 70 = .ok (.iconst 0, 1) := by decide +kernel
theorem d_Mender_findLocator_71 : decode prog_8_method_5_code 71 = .ok (.aload_n 0, 1) := by decide +kernel
theorem d_Mender_findLocator_72 : decode prog_8_method_5_code 72 = .ok (.getfield 24, 3) := by decide +kernel
theorem d_Mender_findLocator_75 : decode prog_8_method_5_code 75 = .ok (.iconst 0, 1) := by decide +kernel
theorem d_Mender_findLocator_76 : decode prog_8_method_5_code 76 = .ok (.bipush 32, 2) := by decide +kernel
theorem d_Mender_findLocator_78 : decode prog_8_method_5_code 78 = .ok (.invokestatic 105, 3) := by decide +kernel
theorem d_Mender_findLocator_81 : decode prog_8_method_5_code 81 = .ok (.aload_n 0, 1) := by decide +kernel
theorem d_Mender_findLocator_82 : decode prog_8_method_5_code 82 = .ok (.aload_n 0, 1) := by decide +kernel
theorem d_Mender_findLocator_83 : decode prog_8_method_5_code 83 = .ok (.getfield 33, 3) := by decide +kernel
theorem d_Mender_findLocator_86 : decode prog_8_method_5_code 86 = .ok (.iload 6, 2) := by decide +kernel
theorem d_Mender_findLocator_88 : decode prog_8_method_5_code 88 = .ok (.iload 4, 2) := by decide +kernel
theorem d_Mender_findLocator_90 : decode prog_8_method_5_code 90 = .ok (.invokevirtual 111, 3) := by decide +kernel
theorem d_Mender_findLocator_93 : decode prog_8_method_5_code 93 = .ok (.iload_n 3, 1) := by decide +kernel
theorem d_Mender_findLocator_94 : decode prog_8_method_5_code 94 = .ok (.invokevirtual 114, 3) := by decide +kernel
theorem d_Mender_findLocator_97 : decode prog_8_method_5_code 97 = .ok (.iinc 3 1, 3) := by decide +kernel
theorem d_Mender_findLocator_100 : decode prog_8_method_5_code 100 = .ok (.iconst 2, 1) := by decide +kernel
theorem d_Mender_findLocator_101 : decode prog_8_method_5_code 101 = .ok (.iload_n 2, 1) := by decide +kernel
theorem d_Mender_findLocator_102 : decode prog_8_method_5_code 102 = .ok (.imul, 1) := by decide +kernel
theorem d_Mender_findLocator_103 : decode prog_8_method_5_code 103 = .ok (.iload 5, 2) := by decide +kernel
theorem d_Mender_findLocator_105 : decode prog_8_method_5_code 105 = .ok (.if_icmp .gt 31, 3) := by decide +kernel
theorem d_Mender_findLocator_108 : decode prog_8_method_5_code 108 = .ok (.iload 5, 2) := by decide +kernel
theorem d_Mender_findLocator_110 : decode prog_8_method_5_code 110 = .ok (.iconst 1, 1) := by decide +kernel
theorem d_Mender_findLocator_111 : decode prog_8_method_5_code 111 = .ok (.iadd, 1) := by decide +kernel
theorem d_Mender_findLocator_112 : decode prog_8_method_5_code 112 = .ok (.iload_n 2, 1) := by decide +kernel
theorem d_Mender_findLocator_113 : decode prog_8_method_5_code 113 = .ok (.isub, 1) := by decide +kernel
theorem d_Mender_findLocator_114 : decode prog_8_method_5_code 114 = .ok (.istore_n 2, 1) := by decide +kernel
theorem d_Mender_findLocator_115 : decode prog_8_method_5_code 115 = .ok (.aload_n 0, 1) := by decide +kernel
theorem d_Mender_findLocator_116 : decode prog_8_method_5_code 116 = .ok (.getfield 24, 3) := by decide +kernel
theorem d_Mender_findLocator_119 : decode prog_8_method_5_code 119 = .ok (.iconst 0, 1) := by decide +kernel
theorem d_Mender_findLocator_120 : decode prog_8_method_5_code 120 = .ok (.aload_n 0, 1) := by decide +kernel
theorem d_Mender_findLocator_121 : decode prog_8_method_5_code 121 = .ok (.getfield 21, 3) := by decide +kernel
theorem d_Mender_findLocator_124 : decode prog_8_method_5_code 124 = .ok (.iconst 0, 1) := by decide +kernel
theorem d_Mender_findLocator_125 : decode prog_8_method_5_code 125 = .ok (.bipush 32, 2) := by decide +kernel
theorem d_Mender_findLocator_127 : decode prog_8_method_5_code 127 = .ok (.invokestatic 105, 3) := by decide +kernel
theorem d_Mender_findLocator_130 : decode prog_8_method_5_code 130 = .ok (.iload 6, 2) := by decide +kernel
theorem d_Mender_findLocator_132 : decode prog_8_method_5_code 132 = .ok (.istore 4, 2) := by decide +kernel
theorem d_Mender_findLocator_134 : decode prog_8_method_5_code 134 = .ok (.iconst 1, 1) := by decide +kernel
theorem d_Mender_findLocator_135 : decode prog_8_method_5_code 135 = .ok (.istore_n 3, 1) := by decide +kernel
theorem d_Mender_findLocator_136 : decode prog_8_method_5_code 136 = .ok (.iinc 5 1, 3) := by decide +kernel
theorem d_Mender_findLocator_139 : decode prog_8_method_5_code 139 = .ok (.goto (-99), 3) := by decide +kernel
theorem d_Mender_findLocator_142 : decode prog_8_method_5_code 142 = .ok (.iload_n 2, 1) := by decide +kernel
theorem d_Mender_findLocator_143 : decode prog_8_method_5_code 143 = .ok (.ireturn, 1) := by decide +kernel
theorem d_Mender_missAt_0 : decode prog_8_method_6_code 0 = .ok (.iconst 0, 1) := by decide +kernel
theorem d_Mender_missAt_1 : decode prog_8_method_6_code 1 = .ok (.istore_n 3, 1) := by decide +kernel
theorem d_Mender_missAt_2 : decode prog_8_method_6_code 2 = .ok (.iconst 0, 1) := by decide +kernel
theorem d_Mender_missAt_3 : decode prog_8_method_6_code 3 = .ok (.istore 4, 2) := by decide +kernel
theorem d_Mender_missAt_5 : decode prog_8_method_6_code 5 = .ok (.iload 4, 2) := by decide +kernel
theorem d_Mender_missAt_7 : decode prog_8_method_6_code 7 = .ok (.iload_n 2, 1) := by decide +kernel
theorem d_Mender_missAt_8 : decode prog_8_method_6_code 8 = .ok (.if_icmp .gt 47, 3) := by decide +kernel
theorem d_Mender_missAt_11 : decode prog_8_method_6_code 11 = .ok (.iload 4, 2) := by decide +kernel
theorem d_Mender_missAt_13 : decode prog_8_method_6_code 13 = .ok (.iload_n 1, 1) := by decide +kernel
theorem d_Mender_missAt_14 : decode prog_8_method_6_code 14 = .ok (.if_icmp .gt 41, 3) := by decide +kernel
theorem d_Mender_missAt_17 : decode prog_8_method_6_code 17 = .ok (.iload_n 1, 1) := by decide +kernel
theorem d_Mender_missAt_18 : decode prog_8_method_6_code 18 = .ok (.bipush 32, 2) := by decide +kernel
theorem d_Mender_missAt_20 : decode prog_8_method_6_code 20 = .ok (.if_icmp .ge 35, 3) := by decide +kernel
theorem d_Mender_missAt_23 : decode prog_8_method_6_code 23 = .ok (.iload_n 3, 1) := by decide +kernel
theorem d_Mender_missAt_24 : decode prog_8_method_6_code 24 = .ok (.aload_n 0, 1) := by decide +kernel
theorem d_Mender_missAt_25 : decode prog_8_method_6_code 25 = .ok (.getfield 33, 3) := by decide +kernel
theorem d_Mender_missAt_28 : decode prog_8_method_6_code 28 = .ok (.aload_n 0, 1) := by decide +kernel
theorem d_Mender_missAt_29 : decode prog_8_method_6_code 29 = .ok (.getfield 18, 3) := by decide +kernel
theorem d_Mender_missAt_32 : decode prog_8_method_6_code 32 = .ok (.iload 4, 2) := by decide +kernel
theorem d_Mender_missAt_34 : decode prog_8_method_6_code 34 = .ok (.iaload, 1) := by decide +kernel
theorem d_Mender_missAt_35 : decode prog_8_method_6_code 35 = .ok (.aload_n 0, 1) := by decide +kernel
theorem d_Mender_missAt_36 : decode prog_8_method_6_code 36 = .ok (.getfield 15, 3) := by decide +kernel
theorem d_Mender_missAt_39 : decode prog_8_method_6_code 39 = .ok (.iload_n 1, 1) := by decide +kernel
theorem d_Mender_missAt_40 : decode prog_8_method_6_code 40 = .ok (.iload 4, 2) := by decide +kernel
theorem d_Mender_missAt_42 : decode prog_8_method_6_code 42 = .ok (.isub, 1) := by decide +kernel
theorem d_Mender_missAt_43 : decode prog_8_method_6_code 43 = .ok (.iaload, 1) := by decide +kernel
theorem d_Mender_missAt_44 : decode prog_8_method_6_code 44 = .ok (.invokevirtual 117, 3) := by decide +kernel
theorem d_Mender_missAt_47 : decode prog_8_method_6_code 47 = .ok (.ixor, 1) := by decide +kernel
theorem d_Mender_missAt_48 : decode prog_8_method_6_code 48 = .ok (.istore_n 3, 1) := by decide +kernel
theorem d_Mender_missAt_49 : decode prog_8_method_6_code 49 = .ok (.iinc 4 1, 3) := by decide +kernel
theorem d_Mender_missAt_52 : decode prog_8_method_6_code 52 = .ok (.goto (-47), 3) := by decide +kernel
theorem d_Mender_missAt_55 : decode prog_8_method_6_code 55 = .ok (.iload_n 3, 1) := by decide +kernel
theorem d_Mender_missAt_56 : decode prog_8_method_6_code 56 = .ok (.ireturn, 1) := by decide +kernel
theorem d_Mender_addOlder_0 : decode prog_8_method_7_code 0 = .ok (.iconst 0, 1) := by decide +kernel
theorem d_Mender_addOlder_1 : decode prog_8_method_7_code 1 = .ok (.istore_n 3, 1) := by decide +kernel
theorem d_Mender_addOlder_2 : decode prog_8_method_7_code 2 = .ok (.iload_n 2, 1) := by decide +kernel
theorem d_Mender_addOlder_3 : decode prog_8_method_7_code 3 = .ok (.ifCond .lt 42, 3) := by decide +kernel
theorem d_Mender_addOlder_6 : decode prog_8_method_7_code 6 = .ok (.iload_n 3, 1) := by decide +kernel
theorem d_Mender_addOlder_7 : decode prog_8_method_7_code 7 = .ok (.iload_n 2, 1) := by decide +kernel
theorem d_Mender_addOlder_8 : decode prog_8_method_7_code 8 = .ok (.iadd, 1) := by decide +kernel
theorem d_Mender_addOlder_9 : decode prog_8_method_7_code 9 = .ok (.bipush 32, 2) := by decide +kernel
theorem d_Mender_addOlder_11 : decode prog_8_method_7_code 11 = .ok (.if_icmp .ge 34, 3) := by decide +kernel
theorem d_Mender_addOlder_14 : decode prog_8_method_7_code 14 = .ok (.aload_n 0, 1) := by decide +kernel
theorem d_Mender_addOlder_15 : decode prog_8_method_7_code 15 = .ok (.getfield 18, 3) := by decide +kernel
theorem d_Mender_addOlder_18 : decode prog_8_method_7_code 18 = .ok (.iload_n 3, 1) := by decide +kernel
theorem d_Mender_addOlder_19 : decode prog_8_method_7_code 19 = .ok (.iload_n 2, 1) := by decide +kernel
theorem d_Mender_addOlder_20 : decode prog_8_method_7_code 20 = .ok (.iadd, 1) := by decide +kernel
theorem d_Mender_addOlder_21 : decode prog_8_method_7_code 21 = .ok (.dup2, 1) := by decide +kernel
theorem d_Mender_addOlder_22 : decode prog_8_method_7_code 22 = .ok (.iaload, 1) := by decide +kernel
theorem d_Mender_addOlder_23 : decode prog_8_method_7_code 23 = .ok (.aload_n 0, 1) := by decide +kernel
theorem d_Mender_addOlder_24 : decode prog_8_method_7_code 24 = .ok (.getfield 33, 3) := by decide +kernel
theorem d_Mender_addOlder_27 : decode prog_8_method_7_code 27 = .ok (.iload_n 1, 1) := by decide +kernel
theorem d_Mender_addOlder_28 : decode prog_8_method_7_code 28 = .ok (.aload_n 0, 1) := by decide +kernel
theorem d_Mender_addOlder_29 : decode prog_8_method_7_code 29 = .ok (.getfield 21, 3) := by decide +kernel
theorem d_Mender_addOlder_32 : decode prog_8_method_7_code 32 = .ok (.iload_n 3, 1) := by decide +kernel
theorem d_Mender_addOlder_33 : decode prog_8_method_7_code 33 = .ok (.iaload, 1) := by decide +kernel
theorem d_Mender_addOlder_34 : decode prog_8_method_7_code 34 = .ok (.invokevirtual 117, 3) := by decide +kernel
theorem d_Mender_addOlder_37 : decode prog_8_method_7_code 37 = .ok (.ixor, 1) := by decide +kernel
theorem d_Mender_addOlder_38 : decode prog_8_method_7_code 38 = .ok (.iastore, 1) := by decide +kernel
theorem d_Mender_addOlder_39 : decode prog_8_method_7_code 39 = .ok (.iinc 3 1, 3) := by decide +kernel
theorem d_Mender_addOlder_42 : decode prog_8_method_7_code 42 = .ok (.goto (-40), 3) := by decide +kernel
theorem d_Mender_addOlder_45 : decode prog_8_method_7_code 45 = .ok (.return_, 1) := by decide +kernel
theorem d_Mender_findPlaces_0 : decode prog_8_method_8_code 0 = .ok (.iconst 0, 1) := by decide +kernel
theorem d_Mender_findPlaces_1 : decode prog_8_method_8_code 1 = .ok (.istore_n 3, 1) := by decide +kernel
theorem d_Mender_findPlaces_2 : decode prog_8_method_8_code 2 = .ok (.iconst 0, 1) := by decide +kernel
theorem d_Mender_findPlaces_3 : decode prog_8_method_8_code 3 = .ok (.istore 4, 2) := by decide +kernel
theorem d_Mender_findPlaces_5 : decode prog_8_method_8_code 5 = .ok (.iload 4, 2) := by decide +kernel
theorem d_Mender_findPlaces_7 : decode prog_8_method_8_code 7 = .ok (.iload_n 1, 1) := by decide +kernel
theorem d_Mender_findPlaces_8 : decode prog_8_method_8_code 8 = .ok (.if_icmp .ge 59, 3) := by decide +kernel
theorem d_Mender_findPlaces_11 : decode prog_8_method_8_code 11 = .ok (.iload_n 3, 1) := by decide +kernel
theorem d_Mender_findPlaces_12 : decode prog_8_method_8_code 12 = .ok (.aload_n 0, 1) := by decide +kernel
theorem d_Mender_findPlaces_13 : decode prog_8_method_8_code 13 = .ok (.getfield 30, 3) := by decide +kernel
theorem d_Mender_findPlaces_16 : decode prog_8_method_8_code 16 = .ok (.arraylength, 1) := by decide +kernel
theorem d_Mender_findPlaces_17 : decode prog_8_method_8_code 17 = .ok (.if_icmp .ge 50, 3) := by decide +kernel
theorem d_Mender_findPlaces_20 : decode prog_8_method_8_code 20 = .ok (.aload_n 0, 1) := by decide +kernel
theorem d_Mender_findPlaces_21 : decode prog_8_method_8_code 21 = .ok (.getfield 33, 3) := by decide +kernel
theorem d_Mender_findPlaces_24 : decode prog_8_method_8_code 24 = .ok (.aload_n 0, 1) := by decide +kernel
theorem d_Mender_findPlaces_25 : decode prog_8_method_8_code 25 = .ok (.getfield 18, 3) := by decide +kernel
theorem d_Mender_findPlaces_28 : decode prog_8_method_8_code 28 = .ok (.iload_n 2, 1) := by decide +kernel
theorem d_Mender_findPlaces_29 : decode prog_8_method_8_code 29 = .ok (.iconst 1, 1) := by decide +kernel
theorem d_Mender_findPlaces_30 : decode prog_8_method_8_code 30 = .ok (.iadd, 1) := by decide +kernel
theorem d_Mender_findPlaces_31 : decode prog_8_method_8_code 31 = .ok (.aload_n 0, 1) := by decide +kernel
theorem d_Mender_findPlaces_32 : decode prog_8_method_8_code 32 = .ok (.getfield 33, 3) := by decide +kernel
theorem d_Mender_findPlaces_35 : decode prog_8_method_8_code 35 = .ok (.sipush 255, 3) := by decide +kernel
theorem d_Mender_findPlaces_38 : decode prog_8_method_8_code 38 = .ok (.iload 4, 2) := by decide +kernel
theorem d_Mender_findPlaces_40 : decode prog_8_method_8_code 40 = .ok (.isub, 1) := by decide +kernel
theorem d_Mender_findPlaces_41 : decode prog_8_method_8_code 41 = .ok (.invokevirtual 87, 3) := by decide +kernel
theorem d_Mender_findPlaces_44 : decode prog_8_method_8_code 44 = .ok (.invokevirtual 92, 3) := by decide +kernel
theorem d_Mender_findPlaces_47 : decode prog_8_method_8_code 47 = .ok (.ifCond .ne 14, 3) := by decide +kernel
theorem d_Mender_findPlaces_50 : decode prog_8_method_8_code 50 = .ok (.aload_n 0, 1) := by decide +kernel
theorem d_Mender_findPlaces_51 : decode prog_8_method_8_code 51 = .ok (.getfield 30, 3) := by decide +kernel
theorem d_Mender_findPlaces_54 : decode prog_8_method_8_code 54 = .ok (.iload_n 3, 1) := by decide +kernel
theorem d_Mender_findPlaces_55 : decode prog_8_method_8_code 55 = .ok (.iload 4, 2) := by decide +kernel
theorem d_Mender_findPlaces_57 : decode prog_8_method_8_code 57 = .ok (.iastore, 1) := by decide +kernel
theorem d_Mender_findPlaces_58 : decode prog_8_method_8_code 58 = .ok (.iinc 3 1, 3) := by decide +kernel
theorem d_Mender_findPlaces_61 : decode prog_8_method_8_code 61 = .ok (.iinc 4 1, 3) := by decide +kernel
theorem d_Mender_findPlaces_64 : decode prog_8_method_8_code 64 = .ok (.goto (-59), 3) := by decide +kernel
theorem d_Mender_findPlaces_67 : decode prog_8_method_8_code 67 = .ok (.iload_n 3, 1) := by decide +kernel
theorem d_Mender_findPlaces_68 : decode prog_8_method_8_code 68 = .ok (.ireturn, 1) := by decide +kernel
theorem d_Mender_findEvaluator_0 : decode prog_8_method_9_code 0 = .ok (.iconst 0, 1) := by decide +kernel
theorem d_Mender_findEvaluator_1 : decode prog_8_method_9_code 1 = .ok (.istore_n 2, 1) := by decide +kernel
theorem d_Mender_findEvaluator_2 : decode prog_8_method_9_code 2 = .ok (.iload_n 2, 1) := by decide +kernel
theorem d_Mender_findEvaluator_3 : decode prog_8_method_9_code 3 = .ok (.iload_n 1, 1) := by decide +kernel
theorem d_Mender_findEvaluator_4 : decode prog_8_method_9_code 4 = .ok (.if_icmp .ge 30, 3) := by decide +kernel
theorem d_Mender_findEvaluator_7 : decode prog_8_method_9_code 7 = .ok (.iload_n 2, 1) := by decide +kernel
theorem d_Mender_findEvaluator_8 : decode prog_8_method_9_code 8 = .ok (.aload_n 0, 1) := by decide +kernel
theorem d_Mender_findEvaluator_9 : decode prog_8_method_9_code 9 = .ok (.getfield 27, 3) := by decide +kernel
theorem d_Mender_findEvaluator_12 : decode prog_8_method_9_code 12 = .ok (.arraylength, 1) := by decide +kernel
theorem d_Mender_findEvaluator_13 : decode prog_8_method_9_code 13 = .ok (.if_icmp .ge 21, 3) := by decide +kernel
theorem d_Mender_findEvaluator_16 : decode prog_8_method_9_code 16 = .ok (.aload_n 0, 1) := by decide +kernel
theorem d_Mender_findEvaluator_17 : decode prog_8_method_9_code 17 = .ok (.getfield 27, 3) := by decide +kernel
theorem d_Mender_findEvaluator_20 : decode prog_8_method_9_code 20 = .ok (.iload_n 2, 1) := by decide +kernel
theorem d_Mender_findEvaluator_21 : decode prog_8_method_9_code 21 = .ok (.aload_n 0, 1) := by decide +kernel
theorem d_Mender_findEvaluator_22 : decode prog_8_method_9_code 22 = .ok (.iload_n 2, 1) := by decide +kernel
theorem d_Mender_findEvaluator_23 : decode prog_8_method_9_code 23 = .ok (.iload_n 2, 1) := by decide +kernel
theorem d_Mender_findEvaluator_24 : decode prog_8_method_9_code 24 = .ok (.invokevirtual 102, 3) := by decide +kernel
theorem d_Mender_findEvaluator_27 : decode prog_8_method_9_code 27 = .ok (.iastore, 1) := by decide +kernel
theorem d_Mender_findEvaluator_28 : decode prog_8_method_9_code 28 = .ok (.iinc 2 1, 3) := by decide +kernel
theorem d_Mender_findEvaluator_31 : decode prog_8_method_9_code 31 = .ok (.goto (-29), 3) := by decide +kernel
theorem d_Mender_findEvaluator_34 : decode prog_8_method_9_code 34 = .ok (.return_, 1) := by decide +kernel
theorem d_Mender_difference_0 : decode prog_8_method_10_code 0 = .ok (.aload_n 0, 1) := by decide +kernel
theorem d_Mender_difference_1 : decode prog_8_method_10_code 1 = .ok (.getfield 33, 3) := by decide +kernel
theorem d_Mender_difference_4 : decode prog_8_method_10_code 4 = .ok (.sipush 255, 3) := by decide +kernel
theorem d_Mender_difference_7 : decode prog_8_method_10_code 7 = .ok (.iload_n 1, 1) := by decide +kernel
theorem d_Mender_difference_8 : decode prog_8_method_10_code 8 = .ok (.isub, 1) := by decide +kernel
theorem d_Mender_difference_9 : decode prog_8_method_10_code 9 = .ok (.invokevirtual 87, 3) := by decide +kernel
theorem d_Mender_difference_12 : decode prog_8_method_10_code 12 = .ok (.istore_n 3, 1) := by decide +kernel
theorem d_Mender_difference_13 : decode prog_8_method_10_code 13 = .ok (.aload_n 0, 1) := by decide +kernel
theorem d_Mender_difference_14 : decode prog_8_method_10_code 14 = .ok (.getfield 33, 3) := by decide +kernel
theorem d_Mender_difference_17 : decode prog_8_method_10_code 17 = .ok (.iload_n 3, 1) := by decide +kernel
theorem d_Mender_difference_18 : decode prog_8_method_10_code 18 = .ok (.iload_n 3, 1) := by decide +kernel
theorem d_Mender_difference_19 : decode prog_8_method_10_code 19 = .ok (.invokevirtual 117, 3) := by decide +kernel
theorem d_Mender_difference_22 : decode prog_8_method_10_code 22 = .ok (.istore 4, 2) := by decide +kernel
theorem d_Mender_difference_24 : decode prog_8_method_10_code 24 = .ok (.iconst 0, 1) := by decide +kernel
theorem d_Mender_difference_25 : decode prog_8_method_10_code 25 = .ok (.istore 5, 2) := by decide +kernel
theorem d_Mender_difference_27 : decode prog_8_method_10_code 27 = .ok (.iload_n 2, 1) := by decide +kernel
theorem d_Mender_difference_28 : decode prog_8_method_10_code 28 = .ok (.bipush 31, 2) := by decide +kernel
theorem d_Mender_difference_30 : decode prog_8_method_10_code 30 = .ok (.invokestatic 50, 3) := by decide +kernel
theorem d_Mender_difference_33 : decode prog_8_method_10_code 33 = .ok (.iconst 1, 1) := by decide +kernel
theorem d_Mender_difference_34 : decode prog_8_method_10_code 34 = .ok (.isub, 1) := by decide +kernel
theorem d_Mender_difference_35 : decode prog_8_method_10_code 35 = .ok (.iconst 2, 1) := by decide +kernel
theorem d_Mender_difference_36 : decode prog_8_method_10_code 36 = .ok (.idiv, 1) := by decide +kernel
theorem d_Mender_difference_37 : decode prog_8_method_10_code 37 = .ok (.istore 6, 2) := by decide +kernel
theorem d_Mender_difference_39 : decode prog_8_method_10_code 39 = .ok (.iload 6, 2) := by decide +kernel
theorem d_Mender_difference_41 : decode prog_8_method_10_code 41 = .ok (.ifCond .lt 34, 3) := by decide +kernel
theorem d_Mender_difference_44 : decode prog_8_method_10_code 44 = .ok (.aload_n 0, 1) := by decide +kernel
theorem d_Mender_difference_45 : decode prog_8_method_10_code 45 = .ok (.getfield 33, 3) := by decide +kernel
theorem d_Mender_difference_48 : decode prog_8_method_10_code 48 = .ok (.iload 5, 2) := by decide +kernel
theorem d_Mender_difference_50 : decode prog_8_method_10_code 50 = .ok (.iload 4, 2) := by decide +kernel
theorem d_Mender_difference_52 : decode prog_8_method_10_code 52 = .ok (.invokevirtual 117, 3) := by decide +kernel
theorem d_Mender_difference_55 : decode prog_8_method_10_code 55 = .ok (.aload_n 0, 1) := by decide +kernel
theorem d_Mender_difference_56 : decode prog_8_method_10_code 56 = .ok (.getfield 18, 3) := by decide +kernel
theorem d_Mender_difference_59 : decode prog_8_method_10_code 59 = .ok (.iconst 2, 1) := by decide +kernel
theorem d_Mender_difference_60 : decode prog_8_method_10_code 60 = .ok (.iload 6, 2) := by decide +kernel
theorem d_Mender_difference_62 : decode prog_8_method_10_code 62 = .ok (.imul, 1) := by decide +kernel
theorem d_Mender_difference_63 : decode prog_8_method_10_code 63 = .ok (.iconst 1, 1) := by decide +kernel
theorem d_Mender_difference_64 : decode prog_8_method_10_code 64 = .ok (.iadd, 1) := by decide +kernel
theorem d_Mender_difference_65 : decode prog_8_method_10_code 65 = .ok (.iaload, 1) := by decide +kernel
theorem d_Mender_difference_66 : decode prog_8_method_10_code 66 = .ok (.ixor, 1) := by decide +kernel
theorem d_Mender_difference_67 : decode prog_8_method_10_code 67 = .ok (.istore 5, 2) := by decide +kernel
theorem d_Mender_difference_69 : decode prog_8_method_10_code 69 = .ok (.iinc 6 (-1), 3) := by decide +kernel
theorem d_Mender_difference_72 : decode prog_8_method_10_code 72 = .ok (.goto (-33), 3) := by decide +kernel
theorem d_Mender_difference_75 : decode prog_8_method_10_code 75 = .ok (.aload_n 0, 1) := by decide +kernel
theorem d_Mender_difference_76 : decode prog_8_method_10_code 76 = .ok (.getfield 33, 3) := by decide +kernel
theorem d_Mender_difference_79 : decode prog_8_method_10_code 79 = .ok (.aload_n 0, 1) := by decide +kernel
theorem d_Mender_difference_80 : decode prog_8_method_10_code 80 = .ok (.getfield 33, 3) := by decide +kernel
theorem d_Mender_difference_83 : decode prog_8_method_10_code 83 = .ok (.iload_n 1, 1) := by decide +kernel
theorem d_Mender_difference_84 : decode prog_8_method_10_code 84 = .ok (.invokevirtual 87, 3) := by decide +kernel
theorem d_Mender_difference_87 : decode prog_8_method_10_code 87 = .ok (.aload_n 0, 1) := by decide +kernel
theorem d_Mender_difference_88 : decode prog_8_method_10_code 88 = .ok (.getfield 33, 3) := by decide +kernel
theorem d_Mender_difference_91 : decode prog_8_method_10_code 91 = .ok (.aload_n 0, 1) := by decide +kernel
theorem d_Mender_difference_92 : decode prog_8_method_10_code 92 = .ok (.getfield 27, 3) := by decide +kernel
theorem d_Mender_difference_95 : decode prog_8_method_10_code 95 = .ok (.iload_n 2, 1) := by decide +kernel
theorem d_Mender_difference_96 : decode prog_8_method_10_code 96 = .ok (.iload_n 3, 1) := by decide +kernel
theorem d_Mender_difference_97 : decode prog_8_method_10_code 97 = .ok (.invokevirtual 92, 3) := by decide +kernel
theorem d_Mender_difference_100 : decode prog_8_method_10_code 100 = .ok (.invokevirtual 117, 3) := by decide +kernel
theorem d_Mender_difference_103 : decode prog_8_method_10_code 103 = .ok (.istore 6, 2) := by decide +kernel
theorem d_Mender_difference_105 : decode prog_8_method_10_code 105 = .ok (.aload_n 0, 1) := by decide +kernel
theorem d_Mender_difference_106 : decode prog_8_method_10_code 106 = .ok (.getfield 33, 3) := by decide +kernel
theorem d_Mender_difference_109 : decode prog_8_method_10_code 109 = .ok (.iload 6, 2) := by decide +kernel
theorem d_Mender_difference_111 : decode prog_8_method_10_code 111 = .ok (.iload 5, 2) := by decide +kernel
theorem d_Mender_difference_113 : decode prog_8_method_10_code 113 = .ok (.invokevirtual 111, 3) := by decide +kernel
theorem d_Mender_difference_116 : decode prog_8_method_10_code 116 = .ok (.ireturn, 1) := by decide +kernel
abbrev y_Division_init : MethodName := ⟨"SquareSymbols$Division", "<init>", "()V"⟩
abbrev w_Division_init : List Cond := .code y_Division_init prog_4_method_1_code 1 none :: lw_g
abbrev y_Division_divide : MethodName := ⟨"SquareSymbols$Division", "divide", "(LSquareSymbols$Data;I)V"⟩
abbrev w_Division_divide : List Cond := .code y_Division_divide prog_4_method_2_code 4 none :: lw_g
abbrev y_Division_chooseModes : MethodName := ⟨"SquareSymbols$Division", "chooseModes", "(II)I"⟩
abbrev w_Division_chooseModes : List Cond := .code y_Division_chooseModes prog_4_method_3_code 9 (some .int) :: lw_g
abbrev y_Division_rewind : MethodName := ⟨"SquareSymbols$Division", "rewind", "()V"⟩
abbrev w_Division_rewind : List Cond := .code y_Division_rewind prog_4_method_6_code 1 none :: lw_g
abbrev y_Division_fits : MethodName := ⟨"SquareSymbols$Division", "fits", "(II)Z"⟩
abbrev w_Division_fits : List Cond := .code y_Division_fits prog_4_method_5_code 4 (some .boolean) :: lw_g
abbrev y_Division_bits : MethodName := ⟨"SquareSymbols$Division", "bits", "()I"⟩
abbrev w_Division_bits : List Cond := .code y_Division_bits prog_4_method_4_code 1 (some .int) :: lw_g
abbrev y_Division_advance : MethodName := ⟨"SquareSymbols$Division", "advance", "()Z"⟩
abbrev w_Division_advance : List Cond := .code y_Division_advance prog_4_method_7_code 1 (some .boolean) :: lw_g
abbrev y_Division_choice : MethodName := ⟨"SquareSymbols$Division", "choice", "(I)I"⟩
abbrev w_Division_choice : List Cond := .code y_Division_choice prog_4_method_8_code 2 (some .int) :: lw_g
abbrev y_Division_length : MethodName := ⟨"SquareSymbols$Division", "length", "()I"⟩
abbrev w_Division_length : List Cond := .code y_Division_length prog_4_method_10_code 1 (some .int) :: lw_g
abbrev y_Division_mode : MethodName := ⟨"SquareSymbols$Division", "mode", "()I"⟩
abbrev w_Division_mode : List Cond := .code y_Division_mode prog_4_method_11_code 1 (some .int) :: lw_g
abbrev y_Division_from : MethodName := ⟨"SquareSymbols$Division", "from", "()I"⟩
abbrev w_Division_from : List Cond := .code y_Division_from prog_4_method_9_code 1 (some .int) :: lw_g
theorem d_Division_init_0 : decode prog_4_method_1_code 0 = .ok (.aload_n 0, 1) := by decide +kernel
theorem d_Division_init_1 : decode prog_4_method_1_code 1 = .ok (.invokespecial 3, 3) := by decide +kernel
theorem d_Division_init_4 : decode prog_4_method_1_code 4 = .ok (.aload_n 0, 1) := by decide +kernel
theorem d_Division_init_5 : decode prog_4_method_1_code 5 = .ok (.sipush 3000, 3) := by decide +kernel
theorem d_Division_init_8 : decode prog_4_method_1_code 8 = .ok (.newarray .int, 2) := by decide +kernel
theorem d_Division_init_10 : decode prog_4_method_1_code 10 = .ok (.putfield 9, 3) := by decide +kernel
theorem d_Division_init_13 : decode prog_4_method_1_code 13 = .ok (.aload_n 0, 1) := by decide +kernel
theorem d_Division_init_14 : decode prog_4_method_1_code 14 = .ok (.bipush 7, 2) := by decide +kernel
theorem d_Division_init_16 : decode prog_4_method_1_code 16 = .ok (.newarray .int, 2) := by decide +kernel
theorem d_Division_init_18 : decode prog_4_method_1_code 18 = .ok (.putfield 15, 3) := by decide +kernel
theorem d_Division_init_21 : decode prog_4_method_1_code 21 = .ok (.aload_n 0, 1) := by decide +kernel
theorem d_Division_init_22 : decode prog_4_method_1_code 22 = .ok (.bipush 7, 2) := by decide +kernel
theorem d_Division_init_24 : decode prog_4_method_1_code 24 = .ok (.newarray .int, 2) := by decide +kernel
theorem d_Division_init_26 : decode prog_4_method_1_code 26 = .ok (.putfield 18, 3) := by decide +kernel
theorem d_Division_init_29 : decode prog_4_method_1_code 29 = .ok (.aload_n 0, 1) := by decide +kernel
theorem d_Division_init_30 : decode prog_4_method_1_code 30 = .ok (.iconst 3, 1) := by decide +kernel
theorem d_Division_init_31 : decode prog_4_method_1_code 31 = .ok (.newarray .int, 2) := by decide +kernel
theorem d_Division_init_33 : decode prog_4_method_1_code 33 = .ok (.putfield 21, 3) := by decide +kernel
theorem d_Division_init_36 : decode prog_4_method_1_code 36 = .ok (.return_, 1) := by decide +kernel
theorem d_Division_divide_0 : decode prog_4_method_2_code 0 = .ok (.aload_n 0, 1) := by decide +kernel
theorem d_Division_divide_1 : decode prog_4_method_2_code 1 = .ok (.aload_n 1, 1) := by decide +kernel
theorem d_Division_divide_2 : decode prog_4_method_2_code 2 = .ok (.invokevirtual 24, 3) := by decide +kernel
theorem d_Division_divide_5 : decode prog_4_method_2_code 5 = .ok (.aload_n 0, 1) := by decide +kernel
theorem d_Division_divide_6 : decode prog_4_method_2_code 6 = .ok (.getfield 9, 3) := by decide +kernel
theorem d_Division_divide_9 : decode prog_4_method_2_code 9 = .ok (.arraylength, 1) := by decide +kernel
theorem d_Division_divide_10 : decode prog_4_method_2_code 10 = .ok (.invokestatic 30, 3) := by decide +kernel
theorem d_Division_divide_13 : decode prog_4_method_2_code 13 = .ok (.putfield 36, 3) := by decide +kernel
theorem d_Division_divide_16 : decode prog_4_method_2_code 16 = .ok (.aload_n 0, 1) := by decide +kernel
theorem d_Division_divide_17 : decode prog_4_method_2_code 17 = .ok (.getfield 15, 3) := by decide +kernel
theorem d_Division_divide_20 : decode prog_4_method_2_code 20 = .ok (.iconst 0, 1) := by decide +kernel
theorem d_Division_divide_21 : decode prog_4_method_2_code 21 = .ok (.invokestatic 39, 3) := by decide +kernel
theorem d_Division_divide_24 : decode prog_4_method_2_code 24 = .ok (.aload_n 0, 1) := by decide +kernel
theorem d_Division_divide_25 : decode prog_4_method_2_code 25 = .ok (.getfield 36, 3) := by decide +kernel
theorem d_Division_divide_28 : decode prog_4_method_2_code 28 = .ok (.iconst 1, 1) := by decide +kernel
theorem d_Division_divide_29 : decode prog_4_method_2_code 29 = .ok (.isub, 1) := by decide +kernel
theorem d_Division_divide_30 : decode prog_4_method_2_code 30 = .ok (.istore_n 3, 1) := by decide +kernel
theorem d_Division_divide_31 : decode prog_4_method_2_code 31 = .ok (.iload_n 3, 1) := by decide +kernel
theorem d_Division_divide_32 : decode prog_4_method_2_code 32 = .ok (.ifCond .lt 28, 3) := by decide +kernel
theorem d_Division_divide_35 : decode prog_4_method_2_code 35 = .ok (.aload_n 0, 1) := by decide +kernel
theorem d_Division_divide_36 : decode prog_4_method_2_code 36 = .ok (.getfield 9, 3) := by decide +kernel
theorem d_Division_divide_39 : decode prog_4_method_2_code 39 = .ok (.iload_n 3, 1) := by decide +kernel
theorem d_Division_divide_40 : decode prog_4_method_2_code 40 = .ok (.aload_n 0, 1) := by decide +kernel
theorem d_Division_divide_41 : decode prog_4_method_2_code 41 = .ok (.aload_n 1, 1) := by decide +kernel
theorem d_Division_divide_42 : decode prog_4_method_2_code 42 = .ok (.iload_n 3, 1) := by decide +kernel
theorem d_Division_divide_43 : decode prog_4_method_2_code 43 = .ok (.invokevirtual 45, 3) := by decide +kernel
theorem d_Division_divide_46 : decode prog_4_method_2_code 46 = .ok (.invokestatic 49, 3) := by decide +kernel
theorem d_Division_divide_49 : decode prog_4_method_2_code 49 = .ok (.iload_n 2, 1) := by decide +kernel
theorem d_Division_divide_50 : decode prog_4_method_2_code 50 = .ok (.invokevirtual 54, 3) := by decide +kernel
theorem d_Division_divide_53 : decode prog_4_method_2_code 53 = .ok (.iastore, 1) := by decide +kernel
theorem d_Division_divide_54 : decode prog_4_method_2_code 54 = .ok (.iinc 3 (-1), 3) := by decide +kernel
theorem d_Division_divide_57 : decode prog_4_method_2_code 57 = .ok (.goto (-26), 3) := by decide +kernel
theorem d_Division_divide_60 : decode prog_4_method_2_code 60 = .ok (.aload_n 0, 1) := by decide +kernel
theorem d_Division_divide_61 : decode prog_4_method_2_code 61 = .ok (.invokevirtual 57, 3) := by decide +kernel
theorem d_Division_divide_64 : decode prog_4_method_2_code 64 = .ok (.return_, 1) := by decide +kernel
theorem d_Division_chooseModes_0 : decode prog_4_method_3_code 0 = .ok (.iload_n 1, 1) := by decide +kernel
theorem d_Division_chooseModes_1 : decode prog_4_method_3_code 1 = .ok (.istore_n 3, 1) := by decide +kernel
theorem d_Division_chooseModes_2 : decode prog_4_method_3_code 2 = .ok (.iload_n 3, 1) := by decide +kernel
theorem d_Division_chooseModes_3 : decode prog_4_method_3_code 3 = .ok (.iconst 3, 1) := by decide +kernel
theorem d_Division_chooseModes_4 : decode prog_4_method_3_code 4 = .ok (.if_icmp .ge 47, 3) := by decide +kernel
theorem d_Division_chooseModes_7 : decode prog_4_method_3_code 7 = .ok (.iconst 4, 1) := by decide +kernel
theorem d_Division_chooseModes_8 : decode prog_4_method_3_code 8 = .ok (.iload_n 3, 1) := by decide +kernel
theorem d_Division_chooseModes_9 : decode prog_4_method_3_code 9 = .ok (.iload_n 2, 1) := by decide +kernel
theorem d_Division_chooseModes_10 : decode prog_4_method_3_code 10 = .ok (.invokestatic 60, 3) := by decide +kernel
theorem d_Division_chooseModes_13 : decode prog_4_method_3_code 13 = .ok (.iadd, 1) := by decide +kernel
theorem d_Division_chooseModes_14 : decode prog_4_method_3_code 14 = .ok (.iload_n 3, 1) := by decide +kernel
theorem d_Division_chooseModes_15 : decode prog_4_method_3_code 15 = .ok (.iconst 1, 1) := by decide +kernel
theorem d_Division_chooseModes_16 : decode prog_4_method_3_code 16 = .ok (.invokestatic 65, 3) := by decide +kernel
theorem d_Division_chooseModes_19 : decode prog_4_method_3_code 19 = .ok (.iadd, 1) := by decide +kernel
theorem d_Division_chooseModes_20 : decode prog_4_method_3_code 20 = .ok (.istore 4, 2) := by decide +kernel
theorem d_Division_chooseModes_22 : decode prog_4_method_3_code 22 = .ok (.aload_n 0, 1) := by decide +kernel
theorem d_Division_chooseModes_23 : decode prog_4_method_3_code 23 = .ok (.getfield 21, 3) := by decide +kernel
theorem d_Division_chooseModes_26 : decode prog_4_method_3_code 26 = .ok (.iload_n 3, 1) := by decide +kernel
theorem d_Division_chooseModes_27 : decode prog_4_method_3_code 27 = .ok (.iload 4, 2) := by decide +kernel
theorem d_Division_chooseModes_29 : decode prog_4_method_3_code 29 = .ok (.aload_n 0, 1) := by decide +kernel
theorem d_Division_chooseModes_30 : decode prog_4_method_3_code 30 = .ok (.getfield 15, 3) := by decide +kernel
theorem d_Division_chooseModes_33 : decode prog_4_method_3_code 33 = .ok (.getstatic 68, 3) := by decide +kernel
theorem d_Division_chooseModes_36 : decode prog_4_method_3_code 36 = .ok (.iload_n 3, 1) := by decide +kernel
theorem d_Division_chooseModes_37 : decode prog_4_method_3_code 37 = .ok (.invokestatic 71, 3) := by decide +kernel
theorem d_Division_chooseModes_40 : decode prog_4_method_3_code 40 = .ok (.invokestatic 71, 3) := by decide +kernel
theorem d_Division_chooseModes_43 : decode prog_4_method_3_code 43 = .ok (.iadd, 1) := by decide +kernel
theorem d_Division_chooseModes_44 : decode prog_4_method_3_code 44 = .ok (.iastore, 1) := by decide +kernel
theorem d_Division_chooseModes_45 : decode prog_4_method_3_code 45 = .ok (.iinc 3 1, 3) := by decide +kernel
theorem d_Division_chooseModes_48 : decode prog_4_method_3_code 48 = .ok (.goto (-46), 3) := by decide +kernel
theorem d_Division_chooseModes_51 : decode prog_4_method_3_code 51 = .ok (.iconst 0, 1) := by decide +kernel
theorem d_Division_chooseModes_52 : decode prog_4_method_3_code 52 = .ok (.istore_n 3, 1) := by decide +kernel
theorem d_Division_chooseModes_53 : decode prog_4_method_3_code 53 = .ok (.iconst 0, 1) := by decide +kernel
theorem d_Division_chooseModes_54 : decode prog_4_method_3_code 54 = .ok (.istore 4, 2) := by decide +kernel
theorem d_Division_chooseModes_56 : decode prog_4_method_3_code 56 = .ok (.iload 4, 2) := by decide +kernel
theorem d_Division_chooseModes_58 : decode prog_4_method_3_code 58 = .ok (.bipush 6, 2) := by decide +kernel
theorem d_Division_chooseModes_60 : decode prog_4_method_3_code 60 = .ok (.if_icmp .gt 106, 3) := by decide +kernel
theorem d_Division_chooseModes_63 : decode prog_4_method_3_code 63 = .ok (.iconst 2, 1) := by decide +kernel
theorem d_Division_chooseModes_64 : decode prog_4_method_3_code 64 = .ok (.istore 5, 2) := by decide +kernel
theorem d_Division_chooseModes_66 : decode prog_4_method_3_code 66 = .ok (.ldc 75, 2) := by decide +kernel
theorem d_Division_chooseModes_68 : decode prog_4_method_3_code 68 = .ok (.istore 6, 2) := by decide +kernel
theorem d_Division_chooseModes_70 : decode prog_4_method_3_code 70 = .ok (.iload_n 1, 1) := by decide +kernel
theorem d_Division_chooseModes_71 : decode prog_4_method_3_code 71 = .ok (.istore 7, 2) := by decide +kernel
theorem d_Division_chooseModes_73 : decode prog_4_method_3_code 73 = .ok (.iload 7, 2) := by decide +kernel
theorem d_Division_chooseModes_75 : decode prog_4_method_3_code 75 = .ok (.iconst 3, 1) := by decide +kernel
theorem d_Division_chooseModes_76 : decode prog_4_method_3_code 76 = .ok (.if_icmp .ge 65, 3) := by decide +kernel
theorem d_Division_chooseModes_79 : decode prog_4_method_3_code 79 = .ok (.iload 7, 2) := by decide +kernel
theorem d_Division_chooseModes_81 : decode prog_4_method_3_code 81 = .ok (.getstatic 76, 3) := by decide +kernel
theorem d_Division_chooseModes_84 : decode prog_4_method_3_code 84 = .ok (.iload 4, 2) := by decide +kernel
theorem d_Division_chooseModes_86 : decode prog_4_method_3_code 86 = .ok (.iaload, 1) := by decide +kernel
theorem d_Division_chooseModes_87 : decode prog_4_method_3_code 87 = .ok (.if_icmp .ne 24, 3) := by decide +kernel
theorem d_Division_chooseModes_90 : decode prog_4_method_3_code 90 = .ok (.getstatic 79, 3) := by decide +kernel
theorem d_Division_chooseModes_93 : decode prog_4_method_3_code 93 = .ok (.iload 4, 2) := by decide +kernel
theorem d_Division_chooseModes_95 : decode prog_4_method_3_code 95 = .ok (.iaload, 1) := by decide +kernel
theorem d_Division_chooseModes_96 : decode prog_4_method_3_code 96 = .ok (.aload_n 0, 1) := by decide +kernel
theorem d_Division_chooseModes_97 : decode prog_4_method_3_code 97 = .ok (.getfield 15, 3) := by decide +kernel
theorem d_Division_chooseModes_100 : decode prog_4_method_3_code 100 = .ok (.getstatic 82, 3) := by decide +kernel
theorem d_Division_chooseModes_103 : decode prog_4_method_3_code 103 = .ok (.iload 4, 2) := by decide +kernel
theorem d_Division_chooseModes_105 : decode prog_4_method_3_code 105 = .ok (.iaload, 1) := by decide +kernel
theorem d_Division_chooseModes_106 : decode prog_4_method_3_code 106 = .ok (.iaload, 1) := by decide +kernel
theorem d_Division_chooseModes_107 : decode prog_4_method_3_code 107 = .ok (.iadd, 1) := by decide +kernel
theorem d_Division_chooseModes_108 : decode prog_4_method_3_code 108 = .ok (.goto 10, 3) := by decide +kernel
theorem d_Division_chooseModes_111 : decode prog_4_method_3_code 111 = .ok (.aload_n 0, 1) := by decide +kernel
theorem d_Division_chooseModes_112 : decode prog_4_method_3_code 112 = .ok (.getfield 21, 3) := by decide +kernel
theorem d_Division_chooseModes_115 : decode prog_4_method_3_code 115 = .ok (.iload 7, 2) := by decide +kernel
theorem d_Division_chooseModes_117 : decode prog_4_method_3_code 117 = .ok (.iaload, 1) := by decide +kernel
theorem d_Division_chooseModes_118 : decode prog_4_method_3_code 118 = .ok (.istore 8, 2) := by decide +kernel
theorem d_Division_chooseModes_120 : decode prog_4_method_3_code 120 = .ok (.iload 8, 2) := by decide +kernel
theorem d_Division_chooseModes_122 : decode prog_4_method_3_code 122 = .ok (.iload 6, 2) := by decide +kernel
theorem d_Division_chooseModes_124 : decode prog_4_method_3_code 124 = .ok (.if_icmp .ge 11, 3) := by decide +kernel
theorem d_Division_chooseModes_127 : decode prog_4_method_3_code 127 = .ok (.iload 8, 2) := by decide +kernel
theorem d_Division_chooseModes_129 : decode prog_4_method_3_code 129 = .ok (.istore 6, 2) := by decide +kernel
theorem d_Division_chooseModes_131 : decode prog_4_method_3_code 131 = .ok (.iload 7, 2) := by decide +kernel
theorem d_Division_chooseModes_133 : decode prog_4_method_3_code 133 = .ok (.istore 5, 2) := by decide +kernel
theorem d_Division_chooseModes_135 : decode prog_4_method_3_code 135 = .ok (.iinc 7 1, 3) := by decide +kernel
theorem d_Division_chooseModes_138 : decode prog_4_method_3_code 138 = .ok (.goto (-65), 3) := by decide +kernel
theorem d_Division_chooseModes_141 : decode prog_4_method_3_code 141 = .ok (.aload_n 0, 1) := by decide +kernel
theorem d_Division_chooseModes_142 : decode prog_4_method_3_code 142 = .ok (.getfield 18, 3) := by decide +kernel
theorem d_Division_chooseModes_145 : decode prog_4_method_3_code 145 = .ok (.iload 4, 2) := by decide +kernel
theorem d_Division_chooseModes_147 : decode prog_4_method_3_code 147 = .ok (.iload 6, 2) := by decide +kernel
theorem d_Division_chooseModes_149 : decode prog_4_method_3_code 149 = .ok (.iastore, 1) := by decide +kernel
theorem d_Division_chooseModes_150 : decode prog_4_method_3_code 150 = .ok (.iload_n 3, 1) := by decide +kernel
theorem d_Division_chooseModes_151 : decode prog_4_method_3_code 151 = .ok (.iload 5, 2) := by decide +kernel
theorem d_Division_chooseModes_153 : decode prog_4_method_3_code 153 = .ok (.iconst 2, 1) := by decide +kernel
theorem d_Division_chooseModes_154 : decode prog_4_method_3_code 154 = .ok (.iload 4, 2) := by decide +kernel
theorem d_Division_chooseModes_156 : decode prog_4_method_3_code 156 = .ok (.imul, 1) := by decide +kernel
theorem d_Division_chooseModes_157 : decode prog_4_method_3_code 157 = .ok (.ishl, 1) := by decide +kernel
theorem d_Division_chooseModes_158 : decode prog_4_method_3_code 158 = .ok (.ior, 1) := by decide +kernel
theorem d_Division_chooseModes_159 : decode prog_4_method_3_code 159 = .ok (.istore_n 3, 1) := by decide +kernel
theorem d_Division_chooseModes_160 : decode prog_4_method_3_code 160 = .ok (.iinc 4 1, 3) := by decide +kernel
theorem d_Division_chooseModes_163 : decode prog_4_method_3_code 163 = .ok (.goto (-107), 3) := by decide +kernel
theorem d_Division_chooseModes_166 : decode prog_4_method_3_code 166 = .ok (.aload_n 0, 1) := by decide +kernel
theorem d_Division_chooseModes_167 : decode prog_4_method_3_code 167 = .ok (.getfield 18, 3) := by decide +kernel
theorem d_Division_chooseModes_170 : decode prog_4_method_3_code 170 = .ok (.iconst 0, 1) := by decide +kernel
theorem d_Division_chooseModes_171 : decode prog_4_method_3_code 171 = .ok (.aload_n 0, 1) := by decide +kernel
theorem d_Division_chooseModes_172 : decode prog_4_method_3_code 172 = .ok (.getfield 15, 3) := by decide +kernel
theorem d_Division_chooseModes_175 : decode prog_4_method_3_code 175 = .ok (.iconst 0, 1) := by decide +kernel
theorem d_Division_chooseModes_176 : decode prog_4_method_3_code 176 = .ok (.aload_n 0, 1) := by decide +kernel
theorem d_Division_chooseModes_177 : decode prog_4_method_3_code 177 = .ok (.getfield 18, 3) := by decide +kernel
theorem d_Division_chooseModes_180 : decode prog_4_method_3_code 180 = .ok (.arraylength, 1) := by decide +kernel
theorem d_Division_chooseModes_181 : decode prog_4_method_3_code 181 = .ok (.invokestatic 85, 3) := by decide +kernel
theorem d_Division_chooseModes_184 : decode prog_4_method_3_code 184 = .ok (.iload_n 3, 1) := by decide +kernel
theorem d_Division_chooseModes_185 : decode prog_4_method_3_code 185 = .ok (.ireturn, 1) := by decide +kernel
theorem d_Division_rewind_0 : decode prog_4_method_6_code 0 = .ok (.aload_n 0, 1) := by decide +kernel
theorem d_Division_rewind_1 : decode prog_4_method_6_code 1 = .ok (.iconst 0, 1) := by decide +kernel
theorem d_Division_rewind_2 : decode prog_4_method_6_code 2 = .ok (.putfield 104, 3) := by decide +kernel
theorem d_Division_rewind_5 : decode prog_4_method_6_code 5 = .ok (.aload_n 0, 1) := by decide +kernel
theorem d_Division_rewind_6 : decode prog_4_method_6_code 6 = .ok (.iconst 0, 1) := by decide +kernel
theorem d_Division_rewind_7 : decode prog_4_method_6_code 7 = .ok (.putfield 107, 3) := by decide +kernel
theorem d_Division_rewind_10 : decode prog_4_method_6_code 10 = .ok (.aload_n 0, 1) := by decide +kernel
theorem d_Division_rewind_11 : decode prog_4_method_6_code 11 = .ok (.bipush 6, 2) := by decide +kernel
theorem d_Division_rewind_13 : decode prog_4_method_6_code 13 = .ok (.putfield 110, 3) := by decide +kernel
theorem d_Division_rewind_16 : decode prog_4_method_6_code 16 = .ok (.return_, 1) := by decide +kernel
theorem d_Division_fits_0 : decode prog_4_method_5_code 0 = .ok (.aload_n 0, 1) := by decide +kernel
theorem d_Division_fits_1 : decode prog_4_method_5_code 1 = .ok (.invokevirtual 91, 3) := by decide +kernel
theorem d_Division_fits_4 : decode prog_4_method_5_code 4 = .ok (.iload_n 1, 1) := by decide +kernel
theorem d_Division_fits_5 : decode prog_4_method_5_code 5 = .ok (.if_icmp .le 5, 3) := by decide +kernel
theorem d_Division_fits_8 : decode prog_4_method_5_code 8 = .ok (.iconst 0, 1) := by decide +kernel
theorem d_Division_fits_9 : decode prog_4_method_5_code 9 = .ok (.ireturn, 1) := by decide +kernel
theorem d_Division_fits_10 : decode prog_4_method_5_code 10 = .ok (.aload_n 0, 1) := by decide +kernel
theorem d_Division_fits_11 : decode prog_4_method_5_code 11 = .ok (.invokevirtual 57, 3) := by decide +kernel
theorem d_Division_fits_14 : decode prog_4_method_5_code 14 = .ok (.iconst 0, 1) := by decide +kernel
theorem d_Division_fits_15 : decode prog_4_method_5_code 15 = .ok (.istore_n 3, 1) := by decide +kernel
theorem d_Division_fits_16 : decode prog_4_method_5_code 16 = .ok (.iload_n 3, 1) := by decide +kernel
theorem d_Division_fits_17 : decode prog_4_method_5_code 17 = .ok (.aload_n 0, 1) := by decide +kernel
theorem d_Division_fits_18 : decode prog_4_method_5_code 18 = .ok (.getfield 36, 3) := by decide +kernel
theorem d_Division_fits_21 : decode prog_4_method_5_code 21 = .ok (.if_icmp .ge 35, 3) := by decide +kernel
theorem d_Division_fits_24 : decode prog_4_method_5_code 24 = .ok (.aload_n 0, 1) := by decide +kernel
theorem d_Division_fits_25 : decode prog_4_method_5_code 25 = .ok (.invokevirtual 94, 3) := by decide +kernel
theorem d_Division_fits_28 : decode prog_4_method_5_code 28 = .ok (.ifCond .eq 28, 3) := by decide +kernel
theorem d_Division_fits_31 : decode prog_4_method_5_code 31 = .ok (.aload_n 0, 1) := by decide +kernel
theorem d_Division_fits_32 : decode prog_4_method_5_code 32 = .ok (.invokevirtual 98, 3) := by decide +kernel
theorem d_Division_fits_35 : decode prog_4_method_5_code 35 = .ok (.iconst 1, 1) := by decide +kernel
theorem d_Division_fits_36 : decode prog_4_method_5_code 36 = .ok (.aload_n 0, 1) := by decide +kernel
theorem d_Division_fits_37 : decode prog_4_method_5_code 37 = .ok (.getfield 101, 3) := by decide +kernel
theorem d_Division_fits_40 : decode prog_4_method_5_code 40 = .ok (.iload_n 2, 1) := by decide +kernel
theorem d_Division_fits_41 : decode prog_4_method_5_code 41 = .ok (.invokestatic 60, 3) := by decide +kernel
theorem d_Division_fits_44 : decode prog_4_method_5_code 44 = .ok (.ishl, 1) := by decide +kernel
theorem d_Division_fits_45 : decode prog_4_method_5_code 45 = .ok (.if_icmp .lt 5, 3) := by decide +kernel
theorem d_Division_fits_48 : decode prog_4_method_5_code 48 = .ok (.iconst 0, 1) := by decide +kernel
theorem d_Division_fits_49 : decode prog_4_method_5_code 49 = .ok (.ireturn, 1) := by decide +kernel
theorem d_Division_fits_50 : decode prog_4_method_5_code 50 = .ok (.iinc 3 1, 3) := by decide +kernel
theorem d_Division_fits_53 : decode prog_4_method_5_code 53 = .ok (.goto (-37), 3) := by decide +kernel
theorem d_Division_fits_56 : decode prog_4_method_5_code 56 = .ok (.iconst 1, 1) := by decide +kernel
theorem d_Division_fits_57 : decode prog_4_method_5_code 57 = .ok (.ireturn, 1) := by decide +kernel
theorem d_Division_bits_0 : decode prog_4_method_4_code 0 = .ok (.aload_n 0, 1) := by decide +kernel
theorem d_Division_bits_1 : decode prog_4_method_4_code 1 = .ok (.getfield 15, 3) := by decide +kernel
theorem d_Division_bits_4 : decode prog_4_method_4_code 4 = .ok (.bipush 6, 2) := by decide +kernel
theorem d_Division_bits_6 : decode prog_4_method_4_code 6 = .ok (.iaload, 1) := by decide +kernel
theorem d_Division_bits_7 : decode prog_4_method_4_code 7 = .ok (.ireturn, 1) := by decide +kernel
theorem d_Division_advance_0 : decode prog_4_method_7_code 0 = .ok (.aload_n 0, 1) := by decide +kernel
theorem d_Division_advance_1 : decode prog_4_method_7_code 1 = .ok (.getfield 107, 3) := by decide +kernel
theorem d_Division_advance_4 : decode prog_4_method_7_code 4 = .ok (.aload_n 0, 1) := by decide +kernel
theorem d_Division_advance_5 : decode prog_4_method_7_code 5 = .ok (.getfield 36, 3) := by decide +kernel
theorem d_Division_advance_8 : decode prog_4_method_7_code 8 = .ok (.if_icmp .lt 5, 3) := by decide +kernel
theorem d_Division_advance_11 : decode prog_4_method_7_code 11 = .ok (.iconst 0, 1) := by decide +kernel
theorem d_Division_advance_12 : decode prog_4_method_7_code 12 = .ok (.ireturn, 1) := by decide +kernel
theorem d_Division_advance_13 : decode prog_4_method_7_code 13 = .ok (.aload_n 0, 1) := by decide +kernel
theorem d_Division_advance_14 : decode prog_4_method_7_code 14 = .ok (.aload_n 0, 1) := by decide +kernel
theorem d_Division_advance_15 : decode prog_4_method_7_code 15 = .ok (.getfield 107, 3) := by decide +kernel
theorem d_Division_advance_18 : decode prog_4_method_7_code 18 = .ok (.putfield 104, 3) := by decide +kernel
theorem d_Division_advance_21 : decode prog_4_method_7_code 21 = .ok (.aload_n 0, 1) := by decide +kernel
theorem d_Division_advance_22 : decode prog_4_method_7_code 22 = .ok (.aload_n 0, 1) := by decide +kernel
theorem d_Division_advance_23 : decode prog_4_method_7_code 23 = .ok (.aload_n 0, 1) := by decide +kernel
theorem d_Division_advance_24 : decode prog_4_method_7_code 24 = .ok (.getfield 104, 3) := by decide +kernel
theorem d_Division_advance_27 : decode prog_4_method_7_code 27 = .ok (.invokevirtual 113, 3) := by decide +kernel
theorem d_Division_advance_30 : decode prog_4_method_7_code 30 = .ok (.putfield 101, 3) := by decide +kernel
theorem d_Division_advance_33 : decode prog_4_method_7_code 33 = .ok (.aload_n 0, 1) := by decide +kernel
theorem d_Division_advance_34 : decode prog_4_method_7_code 34 = .ok (.getstatic 68, 3) := by decide +kernel
theorem d_Division_advance_37 : decode prog_4_method_7_code 37 = .ok (.aload_n 0, 1) := by decide +kernel
theorem d_Division_advance_38 : decode prog_4_method_7_code 38 = .ok (.getfield 101, 3) := by decide +kernel
theorem d_Division_advance_41 : decode prog_4_method_7_code 41 = .ok (.invokestatic 71, 3) := by decide +kernel
theorem d_Division_advance_44 : decode prog_4_method_7_code 44 = .ok (.putfield 110, 3) := by decide +kernel
theorem d_Division_advance_47 : decode prog_4_method_7_code 47 = .ok (.aload_n 0, 1) := by decide +kernel
theorem d_Division_advance_48 : decode prog_4_method_7_code 48 = .ok (.dup, 1) := by decide +kernel
theorem d_Division_advance_49 : decode prog_4_method_7_code 49 = .ok (.getfield 107, 3) := by decide +kernel
theorem d_Division_advance_52 : decode prog_4_method_7_code 52 = .ok (.iconst 1, 1) := by decide +kernel
theorem d_Division_advance_53 : decode prog_4_method_7_code 53 = .ok (.iadd, 1) := by decide +kernel
theorem d_Division_advance_54 : decode prog_4_method_7_code 54 = .ok (.putfield 107, 3) := by decide +kernel
theorem d_Division_advance_57 : decode prog_4_method_7_code 57 = .ok (.aload_n 0, 1) := by decide +kernel
theorem d_Division_advance_58 : decode prog_4_method_7_code 58 = .ok (.getfield 107, 3) := by decide +kernel
theorem d_Division_advance_61 : decode prog_4_method_7_code 61 = .ok (.aload_n 0, 1) := by decide +kernel
theorem d_Division_advance_62 : decode prog_4_method_7_code 62 = .ok (.getfield 36, 3) := by decide +kernel
theorem d_Division_advance_65 : decode prog_4_method_7_code 65 = .ok (.if_icmp .ge 45, 3) := by decide +kernel
theorem d_Division_advance_68 : decode prog_4_method_7_code 68 = .ok (.aload_n 0, 1) := by decide +kernel
theorem d_Division_advance_69 : decode prog_4_method_7_code 69 = .ok (.aload_n 0, 1) := by decide +kernel
theorem d_Division_advance_70 : decode prog_4_method_7_code 70 = .ok (.getfield 107, 3) := by decide +kernel
theorem d_Division_advance_73 : decode prog_4_method_7_code 73 = .ok (.invokevirtual 113, 3) := by decide +kernel
theorem d_Division_advance_76 : decode prog_4_method_7_code 76 = .ok (.aload_n 0, 1) := by decide +kernel
theorem d_Division_advance_77 : decode prog_4_method_7_code 77 = .ok (.getfield 101, 3) := by decide +kernel
theorem d_Division_advance_80 : decode prog_4_method_7_code 80 = .ok (.if_icmp .ne 30, 3) := by decide +kernel
theorem d_Division_advance_83 : decode prog_4_method_7_code 83 = .ok (.aload_n 0, 1) := by decide +kernel
theorem d_Division_advance_84 : decode prog_4_method_7_code 84 = .ok (.getstatic 82, 3) := by decide +kernel
theorem d_Division_advance_87 : decode prog_4_method_7_code 87 = .ok (.aload_n 0, 1) := by decide +kernel
theorem d_Division_advance_88 : decode prog_4_method_7_code 88 = .ok (.getfield 110, 3) := by decide +kernel
theorem d_Division_advance_91 : decode prog_4_method_7_code 91 = .ok (.invokestatic 71, 3) := by decide +kernel
theorem d_Division_advance_94 : decode prog_4_method_7_code 94 = .ok (.putfield 110, 3) := by decide +kernel
theorem d_Division_advance_97 : decode prog_4_method_7_code 97 = .ok (.aload_n 0, 1) := by decide +kernel
theorem d_Division_advance_98 : decode prog_4_method_7_code 98 = .ok (.dup, 1) := by decide +kernel
theorem d_Division_advance_99 : decode prog_4_method_7_code 99 = .ok (.getfield 107, 3) := by decide +kernel
theorem d_Division_advance_102 : decode prog_4_method_7_code 102 = .ok (.iconst 1, 1) := by decide +kernel
theorem d_Division_advance_103 : decode prog_4_method_7_code 103 = .ok (.iadd, 1) := by decide +kernel
theorem d_Division_advance_104 : decode prog_4_method_7_code 104 = .ok (.putfield 107, 3) := by decide +kernel
theorem d_Division_advance_107 : decode prog_4_method_7_code 107 = .ok (.goto (-50), 3) := by decide +kernel
theorem d_Division_advance_110 : decode prog_4_method_7_code 110 = .ok (.iconst 1, 1) := by decide +kernel
theorem d_Division_advance_111 : decode prog_4_method_7_code 111 = .ok (.ireturn, 1) := by decide +kernel
theorem d_Division_choice_0 : decode prog_4_method_8_code 0 = .ok (.aload_n 0, 1) := by decide +kernel
theorem d_Division_choice_1 : decode prog_4_method_8_code 1 = .ok (.getfield 9, 3) := by decide +kernel
theorem d_Division_choice_4 : decode prog_4_method_8_code 4 = .ok (.iload_n 1, 1) := by decide +kernel
theorem d_Division_choice_5 : decode prog_4_method_8_code 5 = .ok (.invokestatic 71, 3) := by decide +kernel
theorem d_Division_choice_8 : decode prog_4_method_8_code 8 = .ok (.iconst 2, 1) := by decide +kernel
theorem d_Division_choice_9 : decode prog_4_method_8_code 9 = .ok (.aload_n 0, 1) := by decide +kernel
theorem d_Division_choice_10 : decode prog_4_method_8_code 10 = .ok (.getfield 110, 3) := by decide +kernel
theorem d_Division_choice_13 : decode prog_4_method_8_code 13 = .ok (.imul, 1) := by decide +kernel
theorem d_Division_choice_14 : decode prog_4_method_8_code 14 = .ok (.ishr, 1) := by decide +kernel
theorem d_Division_choice_15 : decode prog_4_method_8_code 15 = .ok (.iconst 3, 1) := by decide +kernel
theorem d_Division_choice_16 : decode prog_4_method_8_code 16 = .ok (.iand, 1) := by decide +kernel
theorem d_Division_choice_17 : decode prog_4_method_8_code 17 = .ok (.ireturn, 1) := by decide +kernel
theorem d_Division_length_0 : decode prog_4_method_10_code 0 = .ok (.aload_n 0, 1) := by decide +kernel
theorem d_Division_length_1 : decode prog_4_method_10_code 1 = .ok (.getfield 107, 3) := by decide +kernel
theorem d_Division_length_4 : decode prog_4_method_10_code 4 = .ok (.aload_n 0, 1) := by decide +kernel
theorem d_Division_length_5 : decode prog_4_method_10_code 5 = .ok (.getfield 104, 3) := by decide +kernel
theorem d_Division_length_8 : decode prog_4_method_10_code 8 = .ok (.isub, 1) := by decide +kernel
theorem d_Division_length_9 : decode prog_4_method_10_code 9 = .ok (.ireturn, 1) := by decide +kernel
theorem d_Division_mode_0 : decode prog_4_method_11_code 0 = .ok (.aload_n 0, 1) := by decide +kernel
theorem d_Division_mode_1 : decode prog_4_method_11_code 1 = .ok (.getfield 101, 3) := by decide +kernel
theorem d_Division_mode_4 : decode prog_4_method_11_code 4 = .ok (.ireturn, 1) := by decide +kernel
theorem d_Division_from_0 : decode prog_4_method_9_code 0 = .ok (.aload_n 0, 1) := by decide +kernel
theorem d_Division_from_1 : decode prog_4_method_9_code 1 = .ok (.getfield 104, 3) := by decide +kernel
theorem d_Division_from_4 : decode prog_4_method_9_code 4 = .ok (.ireturn, 1) := by decide +kernel
abbrev y_Mode_groupSize : MethodName := ⟨"SquareSymbols$Mode", "groupSize", "(I)I"⟩
abbrev w_Mode_groupSize : List Cond := .code y_Mode_groupSize prog_9_method_4_code 1 (some .int) :: lw_g
abbrev y_Mode_groupBits : MethodName := ⟨"SquareSymbols$Mode", "groupBits", "(II)I"⟩
abbrev w_Mode_groupBits : List Cond := .code y_Mode_groupBits prog_9_method_5_code 2 (some .int) :: lw_g
abbrev y_Mode_groupNumbers : MethodName := ⟨"SquareSymbols$Mode", "groupNumbers", "(II)I"⟩
abbrev w_Mode_groupNumbers : List Cond := .code y_Mode_groupNumbers prog_9_method_6_code 4 (some .int) :: lw_g
abbrev y_Mode_base : MethodName := ⟨"SquareSymbols$Mode", "base", "(I)I"⟩
abbrev w_Mode_base : List Cond := .code y_Mode_base prog_9_method_3_code 1 (some .int) :: lw_g
abbrev y_Mode_byteOf : MethodName := ⟨"SquareSymbols$Mode", "byteOf", "(II)I"⟩
abbrev w_Mode_byteOf : List Cond := .code y_Mode_byteOf prog_9_method_8_code 3 (some .int) :: lw_g
abbrev y_Mode_least : MethodName := ⟨"SquareSymbols$Mode", "least", "(I)I"⟩
abbrev w_Mode_least : List Cond := .code y_Mode_least prog_9_method_2_code 1 (some .int) :: lw_g
abbrev y_Mode_numberOf : MethodName := ⟨"SquareSymbols$Mode", "numberOf", "(II)I"⟩
abbrev w_Mode_numberOf : List Cond := .code y_Mode_numberOf prog_9_method_7_code 2 (some .int) :: lw_g
theorem d_Mode_groupSize_0 : decode prog_9_method_4_code 0 = .ok (.iconst 3, 1) := by decide +kernel
theorem d_Mode_groupSize_1 : decode prog_9_method_4_code 1 = .ok (.iload_n 0, 1) := by decide +kernel
theorem d_Mode_groupSize_2 : decode prog_9_method_4_code 2 = .ok (.isub, 1) := by decide +kernel
theorem d_Mode_groupSize_3 : decode prog_9_method_4_code 3 = .ok (.ireturn, 1) := by decide +kernel
theorem d_Mode_groupBits_0 : decode prog_9_method_5_code 0 = .ok (.iload_n 0, 1) := by decide +kernel
theorem d_Mode_groupBits_1 : decode prog_9_method_5_code 1 = .ok (.ifCond .ne 11, 3) := by decide +kernel
theorem d_Mode_groupBits_4 : decode prog_9_method_5_code 4 = .ok (.iconst 3, 1) := by decide +kernel
theorem d_Mode_groupBits_5 : decode prog_9_method_5_code 5 = .ok (.iload_n 1, 1) := by decide +kernel
theorem d_Mode_groupBits_6 : decode prog_9_method_5_code 6 = .ok (.imul, 1) := by decide +kernel
theorem d_Mode_groupBits_7 : decode prog_9_method_5_code 7 = .ok (.iconst 1, 1) := by decide +kernel
theorem d_Mode_groupBits_8 : decode prog_9_method_5_code 8 = .ok (.iadd, 1) := by decide +kernel
theorem d_Mode_groupBits_9 : decode prog_9_method_5_code 9 = .ok (.goto 20, 3) := by decide +kernel
theorem d_Mode_groupBits_12 : decode prog_9_method_5_code 12 = .ok (.iload_n 0, 1) := by decide +kernel
theorem d_Mode_groupBits_13 : decode prog_9_method_5_code 13 = .ok (.iconst 1, 1) := by decide +kernel
theorem d_Mode_groupBits_14 : decode prog_9_method_5_code 14 = .ok (.if_icmp .ne 11, 3) := by decide +kernel
theorem d_Mode_groupBits_17 : decode prog_9_method_5_code 17 = .ok (.iconst 5, 1) := by decide +kernel
theorem d_Mode_groupBits_18 : decode prog_9_method_5_code 18 = .ok (.iload_n 1, 1) := by decide +kernel
theorem d_Mode_groupBits_19 : decode prog_9_method_5_code 19 = .ok (.imul, 1) := by decide +kernel
theorem d_Mode_groupBits_20 : decode prog_9_method_5_code 20 = .ok (.iconst 1, 1) := by decide +kernel
theorem d_Mode_groupBits_21 : decode prog_9_method_5_code 21 = .ok (.iadd, 1) := by decide +kernel
theorem d_Mode_groupBits_22 : decode prog_9_method_5_code 22 = .ok (.goto 7, 3) := by decide +kernel
theorem d_Mode_groupBits_25 : decode prog_9_method_5_code 25 = .ok (.bipush 8, 2) := by decide +kernel
theorem d_Mode_groupBits_27 : decode prog_9_method_5_code 27 = .ok (.iload_n 1, 1) := by decide +kernel
theorem d_Mode_groupBits_28 : decode prog_9_method_5_code 28 = .ok (.imul, 1) := by decide +kernel
theorem d_Mode_groupBits_29 : decode prog_9_method_5_code 29 = .ok (.ireturn, 1) := by decide +kernel
theorem d_Mode_groupNumbers_0 : decode prog_9_method_6_code 0 = .ok (.iconst 1, 1) := by decide +kernel
theorem d_Mode_groupNumbers_1 : decode prog_9_method_6_code 1 = .ok (.istore_n 2, 1) := by decide +kernel
theorem d_Mode_groupNumbers_2 : decode prog_9_method_6_code 2 = .ok (.iconst 0, 1) := by decide +kernel
theorem d_Mode_groupNumbers_3 : decode prog_9_method_6_code 3 = .ok (.istore_n 3, 1) := by decide +kernel
theorem d_Mode_groupNumbers_4 : decode prog_9_method_6_code 4 = .ok (.iload_n 3, 1) := by decide +kernel
theorem d_Mode_groupNumbers_5 : decode prog_9_method_6_code 5 = .ok (.iload_n 1, 1) := by decide +kernel
theorem d_Mode_groupNumbers_6 : decode prog_9_method_6_code 6 = .ok (.if_icmp .ge 16, 3) := by decide +kernel
theorem d_Mode_groupNumbers_9 : decode prog_9_method_6_code 9 = .ok (.iload_n 2, 1) := by decide +kernel
theorem d_Mode_groupNumbers_10 : decode prog_9_method_6_code 10 = .ok (.iload_n 0, 1) := by decide +kernel
theorem d_Mode_groupNumbers_11 : decode prog_9_method_6_code 11 = .ok (.invokestatic 17, 3) := by decide +kernel
theorem d_Mode_groupNumbers_14 : decode prog_9_method_6_code 14 = .ok (.imul, 1) := by decide +kernel
theorem d_Mode_groupNumbers_15 : decode prog_9_method_6_code 15 = .ok (.istore_n 2, 1) := by decide +kernel
theorem d_Mode_groupNumbers_16 : decode prog_9_method_6_code 16 = .ok (.iinc 3 1, 3) := by decide +kernel
theorem d_Mode_groupNumbers_19 : decode prog_9_method_6_code 19 = .ok (.goto (-15), 3) := by decide +kernel
theorem d_Mode_groupNumbers_22 : decode prog_9_method_6_code 22 = .ok (.iload_n 2, 1) := by decide +kernel
theorem d_Mode_groupNumbers_23 : decode prog_9_method_6_code 23 = .ok (.ireturn, 1) := by decide +kernel
theorem d_Mode_base_0 : decode prog_9_method_3_code 0 = .ok (.iload_n 0, 1) := by decide +kernel
theorem d_Mode_base_1 : decode prog_9_method_3_code 1 = .ok (.ifCond .ne 8, 3) := by decide +kernel
theorem d_Mode_base_4 : decode prog_9_method_3_code 4 = .ok (.bipush 10, 2) := by decide +kernel
theorem d_Mode_base_6 : decode prog_9_method_3_code 6 = .ok (.goto 16, 3) := by decide +kernel
theorem d_Mode_base_9 : decode prog_9_method_3_code 9 = .ok (.iload_n 0, 1) := by decide +kernel
theorem d_Mode_base_10 : decode prog_9_method_3_code 10 = .ok (.iconst 1, 1) := by decide +kernel
theorem d_Mode_base_11 : decode prog_9_method_3_code 11 = .ok (.if_icmp .ne 8, 3) := by decide +kernel
theorem d_Mode_base_14 : decode prog_9_method_3_code 14 = .ok (.bipush 45, 2) := by decide +kernel
theorem d_Mode_base_16 : decode prog_9_method_3_code 16 = .ok (.goto 6, 3) := by decide +kernel
theorem d_Mode_base_19 : decode prog_9_method_3_code 19 = .ok (.sipush 256, 3) := by decide +kernel
theorem d_Mode_base_22 : decode prog_9_method_3_code 22 = .ok (.ireturn, 1) := by decide +kernel
theorem d_Mode_byteOf_0 : decode prog_9_method_8_code 0 = .ok (.iload_n 0, 1) := by decide +kernel
theorem d_Mode_byteOf_1 : decode prog_9_method_8_code 1 = .ok (.iconst 2, 1) := by decide +kernel
theorem d_Mode_byteOf_2 : decode prog_9_method_8_code 2 = .ok (.if_icmp .eq 20, 3) := by decide +kernel
theorem d_Mode_byteOf_5 : decode prog_9_method_8_code 5 = .ok (.iload_n 1, 1) := by decide +kernel
theorem d_Mode_byteOf_6 : decode prog_9_method_8_code 6 = .ok (.ifCond .lt 16, 3) := by decide +kernel
theorem d_Mode_byteOf_9 : decode prog_9_method_8_code 9 = .ok (.iload_n 1, 1) := by decide +kernel
theorem d_Mode_byteOf_10 : decode prog_9_method_8_code 10 = .ok (.ldc 9, 2) := by decide +kernel
theorem d_Mode_byteOf_12 : decode prog_9_method_8_code 12 = .ok (.invokevirtual 22, 3) := by decide +kernel
theorem d_Mode_byteOf_15 : decode prog_9_method_8_code 15 = .ok (.if_icmp .ge 7, 3) := by decide +kernel
theorem d_Mode_byteOf_18 : decode prog_9_method_8_code 18 = .ok (.iconst 1, 1) := by decide +kernel
theorem d_Mode_byteOf_19 : decode prog_9_method_8_code 19 = .ok (.goto 4, 3) := by decide +kernel
theorem d_Mode_byteOf_22 : decode prog_9_method_8_code 22 = .ok (.iconst 0, 1) := by decide +kernel
theorem d_Mode_byteOf_23 : decode prog_9_method_8_code 23 = .ok (.istore_n 2, 1) := by decide +kernel
theorem d_Mode_byteOf_24 : decode prog_9_method_8_code 24 = .ok (.iload_n 2, 1) := by decide +kernel
theorem d_Mode_byteOf_25 : decode prog_9_method_8_code 25 = .ok (.ifCond .eq 12, 3) := by decide +kernel
theorem d_Mode_byteOf_28 : decode prog_9_method_8_code 28 = .ok (.ldc 9, 2) := by decide +kernel
theorem d_Mode_byteOf_30 : decode prog_9_method_8_code 30 = .ok (.iload_n 1, 1) := by decide +kernel
theorem d_Mode_byteOf_31 : decode prog_9_method_8_code 31 = .ok (.invokevirtual 26, 3) := by decide +kernel
theorem d_Mode_byteOf_34 : decode prog_9_method_8_code 34 = .ok (.goto 4, 3) := by decide +kernel
theorem d_Mode_byteOf_37 : decode prog_9_method_8_code 37 = .ok (.iload_n 1, 1) := by decide +kernel
theorem d_Mode_byteOf_38 : decode prog_9_method_8_code 38 = .ok (.ireturn, 1) := by decide +kernel
theorem d_Mode_least_0 : decode prog_9_method_2_code 0 = .ok (.iload_n 0, 1) := by decide +kernel
theorem d_Mode_least_1 : decode prog_9_method_2_code 1 = .ok (.bipush 48, 2) := by decide +kernel
theorem d_Mode_least_3 : decode prog_9_method_2_code 3 = .ok (.if_icmp .lt 11, 3) := by decide +kernel
theorem d_Mode_least_6 : decode prog_9_method_2_code 6 = .ok (.iload_n 0, 1) := by decide +kernel
theorem d_Mode_least_7 : decode prog_9_method_2_code 7 = .ok (.bipush 57, 2) := by decide +kernel
theorem d_Mode_least_9 : decode prog_9_method_2_code 9 = .ok (.if_icmp .gt 5, 3) := by decide +kernel
theorem d_Mode_least_12 : decode prog_9_method_2_code 12 = .ok (.iconst 0, 1) := by decide +kernel
theorem d_Mode_least_13 : decode prog_9_method_2_code 13 = .ok (.ireturn, 1) := by decide +kernel
theorem d_Mode_least_14 : decode prog_9_method_2_code 14 = .ok (.ldc 9, 2) := by decide +kernel
theorem d_Mode_least_16 : decode prog_9_method_2_code 16 = .ok (.iload_n 0, 1) := by decide +kernel
theorem d_Mode_least_17 : decode prog_9_method_2_code 17 = .ok (.i2c, 1) := by decide +kernel
theorem d_Mode_least_18 : decode prog_9_method_2_code 18 = .ok (.invokevirtual 11, 3) := by decide +kernel
theorem d_Mode_least_21 : decode prog_9_method_2_code 21 = .ok (.ifCond .lt 7, 3) := by decide +kernel
theorem d_Mode_least_24 : decode prog_9_method_2_code 24 = .ok (.iconst 1, 1) := by decide +kernel
theorem d_Mode_least_25 : decode prog_9_method_2_code 25 = .ok (.goto 4, 3) := by decide +kernel
theorem d_Mode_least_28 : decode prog_9_method_2_code 28 = .ok (.iconst 2, 1) := by decide +kernel
theorem d_Mode_least_29 : decode prog_9_method_2_code 29 = .ok (.ireturn, 1) := by decide +kernel
theorem d_Mode_numberOf_0 : decode prog_9_method_7_code 0 = .ok (.iload_n 0, 1) := by decide +kernel
theorem d_Mode_numberOf_1 : decode prog_9_method_7_code 1 = .ok (.iconst 2, 1) := by decide +kernel
theorem d_Mode_numberOf_2 : decode prog_9_method_7_code 2 = .ok (.if_icmp .ne 7, 3) := by decide +kernel
theorem d_Mode_numberOf_5 : decode prog_9_method_7_code 5 = .ok (.iload_n 1, 1) := by decide +kernel
theorem d_Mode_numberOf_6 : decode prog_9_method_7_code 6 = .ok (.goto 10, 3) := by decide +kernel
theorem d_Mode_numberOf_9 : decode prog_9_method_7_code 9 = .ok (.ldc 9, 2) := by decide +kernel
theorem d_Mode_numberOf_11 : decode prog_9_method_7_code 11 = .ok (.iload_n 1, 1) := by decide +kernel
theorem d_Mode_numberOf_12 : decode prog_9_method_7_code 12 = .ok (.i2c, 1) := by decide +kernel
theorem d_Mode_numberOf_13 : decode prog_9_method_7_code 13 = .ok (.invokevirtual 11, 3) := by decide +kernel
theorem d_Mode_numberOf_16 : decode prog_9_method_7_code 16 = .ok (.ireturn, 1) := by decide +kernel
