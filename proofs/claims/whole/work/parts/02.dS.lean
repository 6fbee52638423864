abbrev y_JStr_length : MethodName := ⟨"java/lang/String", "length", "()I"⟩
abbrev w_JStr_length : List Cond := .code y_JStr_length prog_22_method_54_code 1 (some .int) :: lw_g
abbrev y_JStr_coder : MethodName := ⟨"java/lang/String", "coder", "()B"⟩
abbrev w_JStr_coder : List Cond := .code y_JStr_coder prog_22_method_152_code 1 (some .byte) :: lw_g
abbrev y_JStr_charAt : MethodName := ⟨"java/lang/String", "charAt", "(I)C"⟩
abbrev w_JStr_charAt : List Cond := .code y_JStr_charAt prog_22_method_56_code 2 (some .char) :: lw_g
abbrev y_JStr_isLatin1 : MethodName := ⟨"java/lang/String", "isLatin1", "()Z"⟩
abbrev w_JStr_isLatin1 : List Cond := .code y_JStr_isLatin1 prog_22_method_154_code 1 (some .boolean) :: lw_g
abbrev y_JStr_checkIndex : MethodName := ⟨"java/lang/String", "checkIndex", "(II)V"⟩
abbrev w_JStr_checkIndex : List Cond := .code y_JStr_checkIndex prog_22_method_155_code 2 none :: lw_g
abbrev y_JStr_indexOf0 : MethodName := ⟨"java/lang/String", "indexOf", "(I)I"⟩
abbrev w_JStr_indexOf0 : List Cond := .code y_JStr_indexOf0 prog_22_method_79_code 2 (some .int) :: lw_g
abbrev y_JStr_indexOf1 : MethodName := ⟨"java/lang/String", "indexOf", "(II)I"⟩
abbrev w_JStr_indexOf1 : List Cond := .code y_JStr_indexOf1 prog_22_method_80_code 3 (some .int) :: lw_g
abbrev y_JStr_checkBoundsBeginEnd : MethodName := ⟨"java/lang/String", "checkBoundsBeginEnd", "(III)V"⟩
abbrev w_JStr_checkBoundsBeginEnd : List Cond := .code y_JStr_checkBoundsBeginEnd prog_22_method_158_code 3 none :: lw_g
theorem d_JStr_length_0 : decode prog_22_method_54_code 0 = .ok (.aload_n 0, 1) := by decide +kernel
theorem d_JStr_length_1 : decode prog_22_method_54_code 1 = .ok (.getfield 9, 3) := by decide +kernel
theorem d_JStr_length_4 : decode prog_22_method_54_code 4 = .ok (.arraylength, 1) := by decide +kernel
theorem d_JStr_length_5 : decode prog_22_method_54_code 5 = .ok (.aload_n 0, 1) := by decide +kernel
theorem d_JStr_length_6 : decode prog_22_method_54_code 6 = .ok (.invokevirtual 335, 3) := by decide +kernel
theorem d_JStr_length_9 : decode prog_22_method_54_code 9 = .ok (.ishr, 1) := by decide +kernel
theorem d_JStr_length_10 : decode prog_22_method_54_code 10 = .ok (.ireturn, 1) := by decide +kernel
theorem d_JStr_coder_0 : decode prog_22_method_152_code 0 = .ok (.getstatic 38, 3) := by decide +kernel
theorem d_JStr_coder_3 : decode prog_22_method_152_code 3 = .ok (.ifCond .eq 10, 3) := by decide +kernel
theorem d_JStr_coder_6 : decode prog_22_method_152_code 6 = .ok (.aload_n 0, 1) := by decide +kernel
theorem d_JStr_coder_7 : decode prog_22_method_152_code 7 = .ok (.getfield 15, 3) := by decide +kernel
theorem d_JStr_coder_10 : decode prog_22_method_152_code 10 = .ok (.goto 4, 3) := by decide +kernel
theorem d_JStr_coder_13 : decode prog_22_method_152_code 13 = .ok (.iconst 1, 1) := by decide +kernel
theorem d_JStr_coder_14 : decode prog_22_method_152_code 14 = .ok (.ireturn, 1) := by decide +kernel
theorem d_JStr_charAt_0 : decode prog_22_method_56_code 0 = .ok (.aload_n 0, 1) := by decide +kernel
theorem d_JStr_charAt_1 : decode prog_22_method_56_code 1 = .ok (.invokevirtual 492, 3) := by decide +kernel
theorem d_JStr_charAt_4 : decode prog_22_method_56_code 4 = .ok (.ifCond .eq 12, 3) := by decide +kernel
theorem d_JStr_charAt_7 : decode prog_22_method_56_code 7 = .ok (.aload_n 0, 1) := by decide +kernel
theorem d_JStr_charAt_8 : decode prog_22_method_56_code 8 = .ok (.getfield 9, 3) := by decide +kernel
theorem d_JStr_charAt_11 : decode prog_22_method_56_code 11 = .ok (.iload_n 1, 1) := by decide +kernel
theorem d_JStr_charAt_12 : decode prog_22_method_56_code 12 = .ok (.invokestatic 495, 3) := by decide +kernel
theorem d_JStr_charAt_15 : decode prog_22_method_56_code 15 = .ok (.ireturn, 1) := by decide +kernel
theorem d_JStr_charAt_16 : decode prog_22_method_56_code 16 = .ok (.aload_n 0, 1) := by decide +kernel
theorem d_JStr_charAt_17 : decode prog_22_method_56_code 17 = .ok (.getfield 9, 3) := by decide +kernel
theorem d_JStr_charAt_20 : decode prog_22_method_56_code 20 = .ok (.iload_n 1, 1) := by decide +kernel
theorem d_JStr_charAt_21 : decode prog_22_method_56_code 21 = .ok (.invokestatic 498, 3) := by decide +kernel
theorem d_JStr_charAt_24 : decode prog_22_method_56_code 24 = .ok (.ireturn, 1) := by decide +kernel
theorem d_JStr_isLatin1_0 : decode prog_22_method_154_code 0 = .ok (.getstatic 38, 3) := by decide +kernel
theorem d_JStr_isLatin1_3 : decode prog_22_method_154_code 3 = .ok (.ifCond .eq 14, 3) := by decide +kernel
theorem d_JStr_isLatin1_6 : decode prog_22_method_154_code 6 = .ok (.aload_n 0, 1) := by decide +kernel
theorem d_JStr_isLatin1_7 : decode prog_22_method_154_code 7 = .ok (.getfield 15, 3) := by decide +kernel
theorem d_JStr_isLatin1_10 : decode prog_22_method_154_code 10 = .ok (.ifCond .ne 7, 3) := by decide +kernel
theorem d_JStr_isLatin1_13 : decode prog_22_method_154_code 13 = .ok (.iconst 1, 1) := by decide +kernel
theorem d_JStr_isLatin1_14 : decode prog_22_method_154_code 14 = .ok (.goto 4, 3) := by decide +kernel
theorem d_JStr_isLatin1_17 : decode prog_22_method_154_code 17 = .ok (.iconst 0, 1) := by decide +kernel
theorem d_JStr_isLatin1_18 : decode prog_22_method_154_code 18 = .ok (.ireturn, 1) := by decide +kernel
theorem d_JStr_checkIndex_0 : decode prog_22_method_155_code 0 = .ok (.iload_n 0, 1) := by decide +kernel
theorem d_JStr_checkIndex_1 : decode prog_22_method_155_code 1 = .ok (.iload_n 1, 1) := by decide +kernel
theorem d_JStr_checkIndex_2 : decode prog_22_method_155_code 2 = .ok (.getstatic 1053, 3) := by decide +kernel
theorem d_JStr_checkIndex_5 : decode prog_22_method_155_code 5 = .ok (.invokestatic 1059, 3) := by decide +kernel
theorem d_JStr_checkIndex_8 : decode prog_22_method_155_code 8 = .ok (.pop, 1) := by decide +kernel
theorem d_JStr_checkIndex_9 : decode prog_22_method_155_code 9 = .ok (.return_, 1) := by decide +kernel
theorem d_JStr_indexOf0_0 : decode prog_22_method_79_code 0 = .ok (.aload_n 0, 1) := by decide +kernel
theorem d_JStr_indexOf0_1 : decode prog_22_method_79_code 1 = .ok (.iload_n 1, 1) := by decide +kernel
theorem d_JStr_indexOf0_2 : decode prog_22_method_79_code 2 = .ok (.iconst 0, 1) := by decide +kernel
theorem d_JStr_indexOf0_3 : decode prog_22_method_79_code 3 = .ok (.invokevirtual 633, 3) := by decide +kernel
theorem d_JStr_indexOf0_6 : decode prog_22_method_79_code 6 = .ok (.ireturn, 1) := by decide +kernel
theorem d_JStr_indexOf1_0 : decode prog_22_method_80_code 0 = .ok (.aload_n 0, 1) := by decide +kernel
theorem d_JStr_indexOf1_1 : decode prog_22_method_80_code 1 = .ok (.invokevirtual 492, 3) := by decide +kernel
theorem d_JStr_indexOf1_4 : decode prog_22_method_80_code 4 = .ok (.ifCond .eq 19, 3) := by decide +kernel
theorem d_JStr_indexOf1_7 : decode prog_22_method_80_code 7 = .ok (.aload_n 0, 1) := by decide +kernel
theorem d_JStr_indexOf1_8 : decode prog_22_method_80_code 8 = .ok (.getfield 9, 3) := by decide +kernel
theorem d_JStr_indexOf1_11 : decode prog_22_method_80_code 11 = .ok (.iload_n 1, 1) := by decide +kernel
theorem d_JStr_indexOf1_12 : decode prog_22_method_80_code 12 = .ok (.iload_n 2, 1) := by decide +kernel
theorem d_JStr_indexOf1_13 : decode prog_22_method_80_code 13 = .ok (.aload_n 0, 1) := by decide +kernel
theorem d_JStr_indexOf1_14 : decode prog_22_method_80_code 14 = .ok (.invokevirtual 505, 3) := by decide +kernel
theorem d_JStr_indexOf1_17 : decode prog_22_method_80_code 17 = .ok (.invokestatic 637, 3) := by decide +kernel
theorem d_JStr_indexOf1_20 : decode prog_22_method_80_code 20 = .ok (.goto 16, 3) := by decide +kernel
theorem d_JStr_indexOf1_23 : decode prog_22_method_80_code 23 = .ok (.aload_n 0, 1) := by decide +kernel
theorem d_JStr_indexOf1_24 : decode prog_22_method_80_code 24 = .ok (.getfield 9, 3) := by decide +kernel
theorem d_JStr_indexOf1_27 : decode prog_22_method_80_code 27 = .ok (.iload_n 1, 1) := by decide +kernel
theorem d_JStr_indexOf1_28 : decode prog_22_method_80_code 28 = .ok (.iload_n 2, 1) := by decide +kernel
theorem d_JStr_indexOf1_29 : decode prog_22_method_80_code 29 = .ok (.aload_n 0, 1) := by decide +kernel
theorem d_JStr_indexOf1_30 : decode prog_22_method_80_code 30 = .ok (.invokevirtual 505, 3) := by decide +kernel
theorem d_JStr_indexOf1_33 : decode prog_22_method_80_code 33 = .ok (.invokestatic 640, 3) := by decide +kernel
theorem d_JStr_indexOf1_36 : decode prog_22_method_80_code 36 = .ok (.ireturn, 1) := by decide +kernel
theorem d_JStr_checkBoundsBeginEnd_0 : decode prog_22_method_158_code 0 = .ok (.iload_n 0, 1) := by decide +kernel
theorem d_JStr_checkBoundsBeginEnd_1 : decode prog_22_method_158_code 1 = .ok (.iload_n 1, 1) := by decide +kernel
theorem d_JStr_checkBoundsBeginEnd_2 : decode prog_22_method_158_code 2 = .ok (.iload_n 2, 1) := by decide +kernel
theorem d_JStr_checkBoundsBeginEnd_3 : decode prog_22_method_158_code 3 = .ok (.getstatic 1053, 3) := by decide +kernel
theorem d_JStr_checkBoundsBeginEnd_6 : decode prog_22_method_158_code 6 = .ok (.invokestatic 1062, 3) := by decide +kernel
theorem d_JStr_checkBoundsBeginEnd_9 : decode prog_22_method_158_code 9 = .ok (.pop, 1) := by decide +kernel
theorem d_JStr_checkBoundsBeginEnd_10 : decode prog_22_method_158_code 10 = .ok (.return_, 1) := by decide +kernel
abbrev y_JLat_charAt : MethodName := ⟨"java/lang/StringLatin1", "charAt", "([BI)C"⟩
abbrev w_JLat_charAt : List Cond := .code y_JLat_charAt prog_23_method_2_code 2 (some .char) :: lw_g
abbrev y_JLat_indexOf : MethodName := ⟨"java/lang/StringLatin1", "indexOf", "([BIII)I"⟩
abbrev w_JLat_indexOf : List Cond := .code y_JLat_indexOf prog_23_method_22_code 4 (some .int) :: lw_g
abbrev y_JLat_canEncode : MethodName := ⟨"java/lang/StringLatin1", "canEncode", "(I)Z"⟩
abbrev w_JLat_canEncode : List Cond := .code y_JLat_canEncode prog_23_method_4_code 1 (some .boolean) :: lw_g
abbrev y_JLat_indexOfChar : MethodName := ⟨"java/lang/StringLatin1", "indexOfChar", "([BIII)I"⟩
abbrev w_JLat_indexOfChar : List Cond := .code y_JLat_indexOfChar prog_23_method_23_code 6 (some .int) :: lw_g
theorem d_JLat_charAt_0 : decode prog_23_method_2_code 0 = .ok (.iload_n 1, 1) := by decide +kernel
theorem d_JLat_charAt_1 : decode prog_23_method_2_code 1 = .ok (.aload_n 0, 1) := by decide +kernel
theorem d_JLat_charAt_2 : decode prog_23_method_2_code 2 = .ok (.arraylength, 1) := by decide +kernel
theorem d_JLat_charAt_3 : decode prog_23_method_2_code 3 = .ok (.invokestatic 9, 3) := by decide +kernel
theorem d_JLat_charAt_6 : decode prog_23_method_2_code 6 = .ok (.aload_n 0, 1) := by decide +kernel
theorem d_JLat_charAt_7 : decode prog_23_method_2_code 7 = .ok (.iload_n 1, 1) := by decide +kernel
theorem d_JLat_charAt_8 : decode prog_23_method_2_code 8 = .ok (.baload, 1) := by decide +kernel
theorem d_JLat_charAt_9 : decode prog_23_method_2_code 9 = .ok (.sipush 255, 3) := by decide +kernel
theorem d_JLat_charAt_12 : decode prog_23_method_2_code 12 = .ok (.iand, 1) := by decide +kernel
theorem d_JLat_charAt_13 : decode prog_23_method_2_code 13 = .ok (.i2c, 1) := by decide +kernel
theorem d_JLat_charAt_14 : decode prog_23_method_2_code 14 = .ok (.ireturn, 1) := by decide +kernel
theorem d_JLat_indexOf_0 : decode prog_23_method_22_code 0 = .ok (.iload_n 1, 1) := by decide +kernel
theorem d_JLat_indexOf_1 : decode prog_23_method_22_code 1 = .ok (.invokestatic 88, 3) := by decide +kernel
theorem d_JLat_indexOf_4 : decode prog_23_method_22_code 4 = .ok (.ifCond .ne 5, 3) := by decide +kernel
theorem d_JLat_indexOf_7 : decode prog_23_method_22_code 7 = .ok (.iconst (-1), 1) := by decide +kernel
theorem d_JLat_indexOf_8 : decode prog_23_method_22_code 8 = .ok (.ireturn, 1) := by decide +kernel
theorem d_JLat_indexOf_9 : decode prog_23_method_22_code 9 = .ok (.iload_n 2, 1) := by decide +kernel
theorem d_JLat_indexOf_10 : decode prog_23_method_22_code 10 = .ok (.iconst 0, 1) := by decide +kernel
theorem d_JLat_indexOf_11 : decode prog_23_method_22_code 11 = .ok (.invokestatic 92, 3) := by decide +kernel
theorem d_JLat_indexOf_14 : decode prog_23_method_22_code 14 = .ok (.istore_n 2, 1) := by decide +kernel
theorem d_JLat_indexOf_15 : decode prog_23_method_22_code 15 = .ok (.iload_n 3, 1) := by decide +kernel
theorem d_JLat_indexOf_16 : decode prog_23_method_22_code 16 = .ok (.aload_n 0, 1) := by decide +kernel
theorem d_JLat_indexOf_17 : decode prog_23_method_22_code 17 = .ok (.arraylength, 1) := by decide +kernel
theorem d_JLat_indexOf_18 : decode prog_23_method_22_code 18 = .ok (.invokestatic 38, 3) := by decide +kernel
theorem d_JLat_indexOf_21 : decode prog_23_method_22_code 21 = .ok (.istore_n 3, 1) := by decide +kernel
theorem d_JLat_indexOf_22 : decode prog_23_method_22_code 22 = .ok (.iload_n 2, 1) := by decide +kernel
theorem d_JLat_indexOf_23 : decode prog_23_method_22_code 23 = .ok (.iload_n 3, 1) := by decide +kernel
theorem d_JLat_indexOf_24 : decode prog_23_method_22_code 24 = .ok (.if_icmp .lt 5, 3) := by decide +kernel
theorem d_JLat_indexOf_27 : decode prog_23_method_22_code 27 = .ok (.iconst (-1), 1) := by decide +kernel
theorem d_JLat_indexOf_28 : decode prog_23_method_22_code 28 = .ok (.ireturn, 1) := by decide +kernel
theorem d_JLat_indexOf_29 : decode prog_23_method_22_code 29 = .ok (.aload_n 0, 1) := by decide +kernel
theorem d_JLat_indexOf_30 : decode prog_23_method_22_code 30 = .ok (.iload_n 1, 1) := by decide +kernel
theorem d_JLat_indexOf_31 : decode prog_23_method_22_code 31 = .ok (.iload_n 2, 1) := by decide +kernel
theorem d_JLat_indexOf_32 : decode prog_23_method_22_code 32 = .ok (.iload_n 3, 1) := by decide +kernel
theorem d_JLat_indexOf_33 : decode prog_23_method_22_code 33 = .ok (.invokestatic 95, 3) := by decide +kernel
theorem d_JLat_indexOf_36 : decode prog_23_method_22_code 36 = .ok (.ireturn, 1) := by decide +kernel
theorem d_JLat_canEncode_0 : decode prog_23_method_4_code 0 = .ok (.iload_n 0, 1) := by decide +kernel
theorem d_JLat_canEncode_1 : decode prog_23_method_4_code 1 = .ok (.ifCond .lt 14, 3) := by decide +kernel
theorem d_JLat_canEncode_4 : decode prog_23_method_4_code 4 = .ok (.iload_n 0, 1) := by decide +kernel
theorem d_JLat_canEncode_5 : decode prog_23_method_4_code 5 = .ok (.sipush 255, 3) := by decide +kernel
theorem d_JLat_canEncode_8 : decode prog_23_method_4_code 8 = .ok (.if_icmp .gt 7, 3) := by decide +kernel
theorem d_JLat_canEncode_11 : decode prog_23_method_4_code 11 = .ok (.iconst 1, 1) := by decide +kernel
theorem d_JLat_canEncode_12 : decode prog_23_method_4_code 12 = .ok (.goto 4, 3) := by decide +kernel
theorem d_JLat_canEncode_15 : decode prog_23_method_4_code 15 = .ok (.iconst 0, 1) := by decide +kernel
theorem d_JLat_canEncode_16 : decode prog_23_method_4_code 16 = .ok (.ireturn, 1) := by decide +kernel
theorem d_JLat_indexOfChar_0 : decode prog_23_method_23_code 0 = .ok (.iload_n 1, 1) := by decide +kernel
theorem d_JLat_indexOfChar_1 : decode prog_23_method_23_code 1 = .ok (.i2b, 1) := by decide +kernel
theorem d_JLat_indexOfChar_2 : decode prog_23_method_23_code 2 = .ok (.istore 4, 2) := by decide +kernel
theorem d_JLat_indexOfChar_4 : decode prog_23_method_23_code 4 = .ok (.iload_n 2, 1) := by decide +kernel
theorem d_JLat_indexOfChar_5 : decode prog_23_method_23_code 5 = .ok (.istore 5, 2) := by decide +kernel
theorem d_JLat_indexOfChar_7 : decode prog_23_method_23_code 7 = .ok (.iload 5, 2) := by decide +kernel
theorem d_JLat_indexOfChar_9 : decode prog_23_method_23_code 9 = .ok (.iload_n 3, 1) := by decide +kernel
theorem d_JLat_indexOfChar_10 : decode prog_23_method_23_code 10 = .ok (.if_icmp .ge 21, 3) := by decide +kernel
theorem d_JLat_indexOfChar_13 : decode prog_23_method_23_code 13 = .ok (.aload_n 0, 1) := by decide +kernel
theorem d_JLat_indexOfChar_14 : decode prog_23_method_23_code 14 = .ok (.iload 5, 2) := by decide +kernel
theorem d_JLat_indexOfChar_16 : decode prog_23_method_23_code 16 = .ok (.baload, 1) := by decide +kernel
theorem d_JLat_indexOfChar_17 : decode prog_23_method_23_code 17 = .ok (.iload 4, 2) := by decide +kernel
theorem d_JLat_indexOfChar_19 : decode prog_23_method_23_code 19 = .ok (.if_icmp .ne 6, 3) := by decide +kernel
theorem d_JLat_indexOfChar_22 : decode prog_23_method_23_code 22 = .ok (.iload 5, 2) := by decide +kernel
theorem d_JLat_indexOfChar_24 : decode prog_23_method_23_code 24 = .ok (.ireturn, 1) := by decide +kernel
theorem d_JLat_indexOfChar_25 : decode prog_23_method_23_code 25 = .ok (.iinc 5 1, 3) := by decide +kernel
theorem d_JLat_indexOfChar_28 : decode prog_23_method_23_code 28 = .ok (.goto (-21), 3) := by decide +kernel
theorem d_JLat_indexOfChar_31 : decode prog_23_method_23_code 31 = .ok (.iconst (-1), 1) := by decide +kernel
theorem d_JLat_indexOfChar_32 : decode prog_23_method_23_code 32 = .ok (.ireturn, 1) := by decide +kernel
abbrev y_JPre_checkIndex : MethodName := ⟨"jdk/internal/util/Preconditions", "checkIndex", "(IILjava/util/function/BiFunction;)I"⟩
abbrev w_JPre_checkIndex : List Cond := .code y_JPre_checkIndex prog_28_method_11_code 3 (some .int) :: lw_g
abbrev y_JPre_checkFromToIndex : MethodName := ⟨"jdk/internal/util/Preconditions", "checkFromToIndex", "(IIILjava/util/function/BiFunction;)I"⟩
abbrev w_JPre_checkFromToIndex : List Cond := .code y_JPre_checkFromToIndex prog_28_method_12_code 4 (some .int) :: lw_g
theorem d_JPre_checkIndex_0 : decode prog_28_method_11_code 0 = .ok (.iload_n 0, 1) := by decide +kernel
theorem d_JPre_checkIndex_1 : decode prog_28_method_11_code 1 = .ok (.ifCond .lt 8, 3) := by decide +kernel
theorem d_JPre_checkIndex_4 : decode prog_28_method_11_code 4 = .ok (.iload_n 0, 1) := by decide +kernel
theorem d_JPre_checkIndex_5 : decode prog_28_method_11_code 5 = .ok (.iload_n 1, 1) := by decide +kernel
theorem d_JPre_checkIndex_6 : decode prog_28_method_11_code 6 = .ok (.if_icmp .lt 10, 3) := by decide +kernel
theorem d_JPre_checkIndex_9 : decode prog_28_method_11_code 9 = .ok (.aload_n 2, 1) := by decide +kernel
theorem d_JPre_checkIndex_10 : decode prog_28_method_11_code 10 = .ok (.iload_n 0, 1) := by decide +kernel
theorem d_JPre_checkIndex_11 : decode prog_28_method_11_code 11 = .ok (.iload_n 1, 1) := by decide +kernel
theorem d_JPre_checkIndex_12 : decode prog_28_method_11_code 12 = .ok (.invokestatic 95, 3) := by decide +kernel
theorem d_JPre_checkIndex_15 : decode prog_28_method_11_code 15 = .ok (.athrow, 1) := by decide +kernel
theorem d_JPre_checkIndex_16 : decode prog_28_method_11_code 16 = .ok (.iload_n 0, 1) := by decide +kernel
theorem d_JPre_checkIndex_17 : decode prog_28_method_11_code 17 = .ok (.ireturn, 1) := by decide +kernel
theorem d_JPre_checkFromToIndex_0 : decode prog_28_method_12_code 0 = .ok (.iload_n 0, 1) := by decide +kernel
theorem d_JPre_checkFromToIndex_1 : decode prog_28_method_12_code 1 = .ok (.ifCond .lt 13, 3) := by decide +kernel
theorem d_JPre_checkFromToIndex_4 : decode prog_28_method_12_code 4 = .ok (.iload_n 0, 1) := by decide +kernel
theorem d_JPre_checkFromToIndex_5 : decode prog_28_method_12_code 5 = .ok (.iload_n 1, 1) := by decide +kernel
theorem d_JPre_checkFromToIndex_6 : decode prog_28_method_12_code 6 = .ok (.if_icmp .gt 8, 3) := by decide +kernel
theorem d_JPre_checkFromToIndex_9 : decode prog_28_method_12_code 9 = .ok (.iload_n 1, 1) := by decide +kernel
theorem d_JPre_checkFromToIndex_10 : decode prog_28_method_12_code 10 = .ok (.iload_n 2, 1) := by decide +kernel
theorem d_JPre_checkFromToIndex_11 : decode prog_28_method_12_code 11 = .ok (.if_icmp .le 11, 3) := by decide +kernel
theorem d_JPre_checkFromToIndex_14 : decode prog_28_method_12_code 14 = .ok (.aload_n 3, 1) := by decide +kernel
theorem d_JPre_checkFromToIndex_15 : decode prog_28_method_12_code 15 = .ok (.iload_n 0, 1) := by decide +kernel
theorem d_JPre_checkFromToIndex_16 : decode prog_28_method_12_code 16 = .ok (.iload_n 1, 1) := by decide +kernel
theorem d_JPre_checkFromToIndex_17 : decode prog_28_method_12_code 17 = .ok (.iload_n 2, 1) := by decide +kernel
theorem d_JPre_checkFromToIndex_18 : decode prog_28_method_12_code 18 = .ok (.invokestatic 99, 3) := by decide +kernel
theorem d_JPre_checkFromToIndex_21 : decode prog_28_method_12_code 21 = .ok (.athrow, 1) := by decide +kernel
theorem d_JPre_checkFromToIndex_22 : decode prog_28_method_12_code 22 = .ok (.iload_n 0, 1) := by decide +kernel
theorem d_JPre_checkFromToIndex_23 : decode prog_28_method_12_code 23 = .ok (.ireturn, 1) := by decide +kernel
