abbrev y_Law_put : MethodName := ⟨"SquareSymbolsLaw", "put", "(LSquareSymbols;IJ[J)I"⟩
abbrev w_Law_put : List Cond := .codeWith y_Law_put method_3_code 6 (some .int) [(0, 11, 14, 13)] :: lw_g
theorem d_Law_put_0 : decode method_3_code 0 = .ok (.aload 4, 2) := by decide +kernel
theorem d_Law_put_2 : decode method_3_code 2 = .ok (.iconst 0, 1) := by decide +kernel
theorem d_Law_put_3 : decode method_3_code 3 = .ok (.aload_n 0, 1) := by decide +kernel
theorem d_Law_put_4 : decode method_3_code 4 = .ok (.iload_n 1, 1) := by decide +kernel
theorem d_Law_put_5 : decode method_3_code 5 = .ok (.lload_n 2, 1) := by decide +kernel
theorem d_Law_put_6 : decode method_3_code 6 = .ok (.invokevirtual 7, 3) := by decide +kernel
theorem d_Law_put_9 : decode method_3_code 9 = .ok (.i2l, 1) := by decide +kernel
theorem d_Law_put_10 : decode method_3_code 10 = .ok (.lastore, 1) := by decide +kernel
theorem d_Law_put_11 : decode method_3_code 11 = .ok (.goto 7, 3) := by decide +kernel
theorem d_Law_put_14 : decode method_3_code 14 = .ok (.astore 5, 2) := by decide +kernel
theorem d_Law_put_16 : decode method_3_code 16 = .ok (.iconst 1, 1) := by decide +kernel
theorem d_Law_put_17 : decode method_3_code 17 = .ok (.ireturn, 1) := by decide +kernel
theorem d_Law_put_18 : decode method_3_code 18 = .ok (.iconst 0, 1) := by decide +kernel
theorem d_Law_put_19 : decode method_3_code 19 = .ok (.ireturn, 1) := by decide +kernel
abbrev y_Law_repeat : MethodName := ⟨"SquareSymbolsLaw", "repeat", "(LSquareSymbols;II[J)I"⟩
abbrev w_Law_repeat : List Cond := .codeWith y_Law_repeat method_4_code 5 (some .int) [(0, 10, 13, 13)] :: lw_g
theorem d_Law_repeat_0 : decode method_4_code 0 = .ok (.aload_n 3, 1) := by decide +kernel
theorem d_Law_repeat_1 : decode method_4_code 1 = .ok (.iconst 0, 1) := by decide +kernel
theorem d_Law_repeat_2 : decode method_4_code 2 = .ok (.aload_n 0, 1) := by decide +kernel
theorem d_Law_repeat_3 : decode method_4_code 3 = .ok (.iload_n 1, 1) := by decide +kernel
theorem d_Law_repeat_4 : decode method_4_code 4 = .ok (.iload_n 2, 1) := by decide +kernel
theorem d_Law_repeat_5 : decode method_4_code 5 = .ok (.invokevirtual 15, 3) := by decide +kernel
theorem d_Law_repeat_8 : decode method_4_code 8 = .ok (.i2l, 1) := by decide +kernel
theorem d_Law_repeat_9 : decode method_4_code 9 = .ok (.lastore, 1) := by decide +kernel
theorem d_Law_repeat_10 : decode method_4_code 10 = .ok (.goto 7, 3) := by decide +kernel
theorem d_Law_repeat_13 : decode method_4_code 13 = .ok (.astore 4, 2) := by decide +kernel
theorem d_Law_repeat_15 : decode method_4_code 15 = .ok (.iconst 1, 1) := by decide +kernel
theorem d_Law_repeat_16 : decode method_4_code 16 = .ok (.ireturn, 1) := by decide +kernel
theorem d_Law_repeat_17 : decode method_4_code 17 = .ok (.iconst 0, 1) := by decide +kernel
theorem d_Law_repeat_18 : decode method_4_code 18 = .ok (.ireturn, 1) := by decide +kernel
abbrev y_Law_make : MethodName := ⟨"SquareSymbolsLaw", "make", "(LSquareSymbols;III[J)I"⟩
abbrev w_Law_make : List Cond := .codeWith y_Law_make method_5_code 6 (some .int) [(0, 12, 15, 13)] :: lw_g
theorem d_Law_make_0 : decode method_5_code 0 = .ok (.aload 4, 2) := by decide +kernel
theorem d_Law_make_2 : decode method_5_code 2 = .ok (.iconst 0, 1) := by decide +kernel
theorem d_Law_make_3 : decode method_5_code 3 = .ok (.aload_n 0, 1) := by decide +kernel
theorem d_Law_make_4 : decode method_5_code 4 = .ok (.iload_n 1, 1) := by decide +kernel
theorem d_Law_make_5 : decode method_5_code 5 = .ok (.iload_n 2, 1) := by decide +kernel
theorem d_Law_make_6 : decode method_5_code 6 = .ok (.iload_n 3, 1) := by decide +kernel
theorem d_Law_make_7 : decode method_5_code 7 = .ok (.invokevirtual 19, 3) := by decide +kernel
theorem d_Law_make_10 : decode method_5_code 10 = .ok (.i2l, 1) := by decide +kernel
theorem d_Law_make_11 : decode method_5_code 11 = .ok (.lastore, 1) := by decide +kernel
theorem d_Law_make_12 : decode method_5_code 12 = .ok (.goto 7, 3) := by decide +kernel
theorem d_Law_make_15 : decode method_5_code 15 = .ok (.astore 5, 2) := by decide +kernel
theorem d_Law_make_17 : decode method_5_code 17 = .ok (.iconst 1, 1) := by decide +kernel
theorem d_Law_make_18 : decode method_5_code 18 = .ok (.ireturn, 1) := by decide +kernel
theorem d_Law_make_19 : decode method_5_code 19 = .ok (.iconst 0, 1) := by decide +kernel
theorem d_Law_make_20 : decode method_5_code 20 = .ok (.ireturn, 1) := by decide +kernel
abbrev y_Law_blank : MethodName := ⟨"SquareSymbolsLaw", "blank", "(LSquareSymbols;I[J)I"⟩
abbrev w_Law_blank : List Cond := .codeWith y_Law_blank method_6_code 4 (some .int) [(0, 9, 12, 13)] :: lw_g
theorem d_Law_blank_0 : decode method_6_code 0 = .ok (.aload_n 2, 1) := by decide +kernel
theorem d_Law_blank_1 : decode method_6_code 1 = .ok (.iconst 0, 1) := by decide +kernel
theorem d_Law_blank_2 : decode method_6_code 2 = .ok (.aload_n 0, 1) := by decide +kernel
theorem d_Law_blank_3 : decode method_6_code 3 = .ok (.iload_n 1, 1) := by decide +kernel
theorem d_Law_blank_4 : decode method_6_code 4 = .ok (.invokevirtual 23, 3) := by decide +kernel
theorem d_Law_blank_7 : decode method_6_code 7 = .ok (.i2l, 1) := by decide +kernel
theorem d_Law_blank_8 : decode method_6_code 8 = .ok (.lastore, 1) := by decide +kernel
theorem d_Law_blank_9 : decode method_6_code 9 = .ok (.goto 6, 3) := by decide +kernel
theorem d_Law_blank_12 : decode method_6_code 12 = .ok (.astore_n 3, 1) := by decide +kernel
theorem d_Law_blank_13 : decode method_6_code 13 = .ok (.iconst 1, 1) := by decide +kernel
theorem d_Law_blank_14 : decode method_6_code 14 = .ok (.ireturn, 1) := by decide +kernel
theorem d_Law_blank_15 : decode method_6_code 15 = .ok (.iconst 0, 1) := by decide +kernel
theorem d_Law_blank_16 : decode method_6_code 16 = .ok (.ireturn, 1) := by decide +kernel
abbrev y_Law_told : MethodName := ⟨"SquareSymbolsLaw", "told", "(LSquareSymbols;I[J)I"⟩
abbrev w_Law_told : List Cond := .codeWith y_Law_told method_7_code 4 (some .int) [(0, 9, 12, 13)] :: lw_g
theorem d_Law_told_0 : decode method_7_code 0 = .ok (.aload_n 2, 1) := by decide +kernel
theorem d_Law_told_1 : decode method_7_code 1 = .ok (.iconst 0, 1) := by decide +kernel
theorem d_Law_told_2 : decode method_7_code 2 = .ok (.aload_n 0, 1) := by decide +kernel
theorem d_Law_told_3 : decode method_7_code 3 = .ok (.iload_n 1, 1) := by decide +kernel
theorem d_Law_told_4 : decode method_7_code 4 = .ok (.invokevirtual 27, 3) := by decide +kernel
theorem d_Law_told_7 : decode method_7_code 7 = .ok (.i2l, 1) := by decide +kernel
theorem d_Law_told_8 : decode method_7_code 8 = .ok (.lastore, 1) := by decide +kernel
theorem d_Law_told_9 : decode method_7_code 9 = .ok (.goto 6, 3) := by decide +kernel
theorem d_Law_told_12 : decode method_7_code 12 = .ok (.astore_n 3, 1) := by decide +kernel
theorem d_Law_told_13 : decode method_7_code 13 = .ok (.iconst 1, 1) := by decide +kernel
theorem d_Law_told_14 : decode method_7_code 14 = .ok (.ireturn, 1) := by decide +kernel
theorem d_Law_told_15 : decode method_7_code 15 = .ok (.iconst 0, 1) := by decide +kernel
theorem d_Law_told_16 : decode method_7_code 16 = .ok (.ireturn, 1) := by decide +kernel
abbrev y_Law_segment : MethodName := ⟨"SquareSymbolsLaw", "segment", "(LSquareSymbols;II[J)I"⟩
abbrev w_Law_segment : List Cond := .codeWith y_Law_segment method_8_code 5 (some .int) [(0, 10, 13, 13)] :: lw_g
theorem d_Law_segment_0 : decode method_8_code 0 = .ok (.aload_n 3, 1) := by decide +kernel
theorem d_Law_segment_1 : decode method_8_code 1 = .ok (.iconst 0, 1) := by decide +kernel
theorem d_Law_segment_2 : decode method_8_code 2 = .ok (.aload_n 0, 1) := by decide +kernel
theorem d_Law_segment_3 : decode method_8_code 3 = .ok (.iload_n 1, 1) := by decide +kernel
theorem d_Law_segment_4 : decode method_8_code 4 = .ok (.iload_n 2, 1) := by decide +kernel
theorem d_Law_segment_5 : decode method_8_code 5 = .ok (.invokevirtual 30, 3) := by decide +kernel
theorem d_Law_segment_8 : decode method_8_code 8 = .ok (.i2l, 1) := by decide +kernel
theorem d_Law_segment_9 : decode method_8_code 9 = .ok (.lastore, 1) := by decide +kernel
theorem d_Law_segment_10 : decode method_8_code 10 = .ok (.goto 7, 3) := by decide +kernel
theorem d_Law_segment_13 : decode method_8_code 13 = .ok (.astore 4, 2) := by decide +kernel
theorem d_Law_segment_15 : decode method_8_code 15 = .ok (.iconst 1, 1) := by decide +kernel
theorem d_Law_segment_16 : decode method_8_code 16 = .ok (.ireturn, 1) := by decide +kernel
theorem d_Law_segment_17 : decode method_8_code 17 = .ok (.iconst 0, 1) := by decide +kernel
theorem d_Law_segment_18 : decode method_8_code 18 = .ok (.ireturn, 1) := by decide +kernel
abbrev y_Law_reading : MethodName := ⟨"SquareSymbolsLaw", "reading", "(LSquareSymbols;I[J)I"⟩
abbrev w_Law_reading : List Cond := .codeWith y_Law_reading method_9_code 4 (some .int) [(0, 9, 12, 13)] :: lw_g
theorem d_Law_reading_0 : decode method_9_code 0 = .ok (.aload_n 2, 1) := by decide +kernel
theorem d_Law_reading_1 : decode method_9_code 1 = .ok (.iconst 0, 1) := by decide +kernel
theorem d_Law_reading_2 : decode method_9_code 2 = .ok (.aload_n 0, 1) := by decide +kernel
theorem d_Law_reading_3 : decode method_9_code 3 = .ok (.iload_n 1, 1) := by decide +kernel
theorem d_Law_reading_4 : decode method_9_code 4 = .ok (.invokevirtual 33, 3) := by decide +kernel
theorem d_Law_reading_7 : decode method_9_code 7 = .ok (.i2l, 1) := by decide +kernel
theorem d_Law_reading_8 : decode method_9_code 8 = .ok (.lastore, 1) := by decide +kernel
theorem d_Law_reading_9 : decode method_9_code 9 = .ok (.goto 6, 3) := by decide +kernel
theorem d_Law_reading_12 : decode method_9_code 12 = .ok (.astore_n 3, 1) := by decide +kernel
theorem d_Law_reading_13 : decode method_9_code 13 = .ok (.iconst 1, 1) := by decide +kernel
theorem d_Law_reading_14 : decode method_9_code 14 = .ok (.ireturn, 1) := by decide +kernel
theorem d_Law_reading_15 : decode method_9_code 15 = .ok (.iconst 0, 1) := by decide +kernel
theorem d_Law_reading_16 : decode method_9_code 16 = .ok (.ireturn, 1) := by decide +kernel
