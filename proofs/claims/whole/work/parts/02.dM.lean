abbrev y_Md_init : MethodName := ⟨"SquareSymbolsModel", "<init>", "()V"⟩
abbrev w_Md_init : List Cond := .code y_Md_init prog_14_method_1_code 1 none :: lw_g
abbrev y_Md_thrown : MethodName := ⟨"SquareSymbolsModel", "thrown", "()I"⟩
abbrev w_Md_thrown : List Cond := .code y_Md_thrown prog_14_method_2_code 1 (some .int) :: lw_g
abbrev y_Md_put : MethodName := ⟨"SquareSymbolsModel", "put", "(IJ)I"⟩
abbrev w_Md_put : List Cond := .code y_Md_put prog_14_method_3_code 5 (some .int) :: lw_g
abbrev y_Md_repeat : MethodName := ⟨"SquareSymbolsModel", "repeat", "(II)I"⟩
abbrev w_Md_repeat : List Cond := .code y_Md_repeat prog_14_method_4_code 4 (some .int) :: lw_g
abbrev y_Md_wipe : MethodName := ⟨"SquareSymbolsModel", "wipe", "()I"⟩
abbrev w_Md_wipe : List Cond := .code y_Md_wipe prog_14_method_5_code 2 (some .int) :: lw_g
abbrev y_Md_at : MethodName := ⟨"SquareSymbolsModel", "at", "(I)I"⟩
abbrev w_Md_at : List Cond := .code y_Md_at prog_14_method_6_code 2 (some .int) :: lw_g
abbrev y_Md_make : MethodName := ⟨"SquareSymbolsModel", "make", "(III)I"⟩
abbrev w_Md_make : List Cond := .code y_Md_make prog_14_method_52_code 10 (some .int) :: lw_g
abbrev y_Md_versionFor : MethodName := ⟨"SquareSymbolsModel", "versionFor", "(II)I"⟩
abbrev w_Md_versionFor : List Cond := .code y_Md_versionFor prog_14_method_51_code 7 (some .int) :: lw_g
abbrev y_Md_fits : MethodName := ⟨"SquareSymbolsModel", "fits", "(II)Z"⟩
abbrev w_Md_fits : List Cond := .code y_Md_fits prog_14_method_50_code 6 (some .boolean) :: lw_g
abbrev y_Md_rank : MethodName := ⟨"SquareSymbolsModel", "rank", "(I)I"⟩
abbrev w_Md_rank : List Cond := .code y_Md_rank prog_14_method_12_code 1 (some .int) :: lw_g
abbrev y_Md_divide : MethodName := ⟨"SquareSymbolsModel", "divide", "(I)V"⟩
abbrev w_Md_divide : List Cond := .code y_Md_divide prog_14_method_22_code 6 none :: lw_g
abbrev y_Md_least : MethodName := ⟨"SquareSymbolsModel", "least", "(III)I"⟩
abbrev w_Md_least : List Cond := .code y_Md_least prog_14_method_21_code 7 (some .int) :: lw_g
abbrev y_Md_restOf : MethodName := ⟨"SquareSymbolsModel", "restOf", "(IIII)I"⟩
abbrev w_Md_restOf : List Cond := .code y_Md_restOf prog_14_method_20_code 5 (some .int) :: lw_g
abbrev y_Md_may : MethodName := ⟨"SquareSymbolsModel", "may", "(II)Z"⟩
abbrev w_Md_may : List Cond := .code y_Md_may prog_14_method_16_code 2 (some .boolean) :: lw_g
abbrev y_Md_signOf : MethodName := ⟨"SquareSymbolsModel", "signOf", "(I)I"⟩
abbrev w_Md_signOf : List Cond := .code y_Md_signOf prog_14_method_14_code 1 (some .int) :: lw_g
abbrev y_Md_costOf : MethodName := ⟨"SquareSymbolsModel", "costOf", "(III)I"⟩
abbrev w_Md_costOf : List Cond := .code y_Md_costOf prog_14_method_19_code 6 (some .int) :: lw_g
abbrev y_Md_modeOf : MethodName := ⟨"SquareSymbolsModel", "modeOf", "(I)I"⟩
abbrev w_Md_modeOf : List Cond := .code y_Md_modeOf prog_14_method_17_code 1 (some .int) :: lw_g
abbrev y_Md_lengthBits : MethodName := ⟨"SquareSymbolsModel", "lengthBits", "(II)I"⟩
abbrev w_Md_lengthBits : List Cond := .code y_Md_lengthBits prog_14_method_13_code 2 (some .int) :: lw_g
abbrev y_Md_stateAfter : MethodName := ⟨"SquareSymbolsModel", "stateAfter", "(II)I"⟩
abbrev w_Md_stateAfter : List Cond := .code y_Md_stateAfter prog_14_method_18_code 3 (some .int) :: lw_g
abbrev y_Md_holds : MethodName := ⟨"SquareSymbolsModel", "holds", "(II)I"⟩
abbrev w_Md_holds : List Cond := .code y_Md_holds prog_14_method_11_code 3 (some .int) :: lw_g
abbrev y_Md_allCodewords : MethodName := ⟨"SquareSymbolsModel", "allCodewords", "(I)I"⟩
abbrev w_Md_allCodewords : List Cond := .code y_Md_allCodewords prog_14_method_8_code 3 (some .int) :: lw_g
abbrev y_Md_checkOf : MethodName := ⟨"SquareSymbolsModel", "checkOf", "(II)I"⟩
abbrev w_Md_checkOf : List Cond := .code y_Md_checkOf prog_14_method_9_code 3 (some .int) :: lw_g
abbrev y_Md_blocksOf : MethodName := ⟨"SquareSymbolsModel", "blocksOf", "(II)I"⟩
abbrev w_Md_blocksOf : List Cond := .code y_Md_blocksOf prog_14_method_10_code 3 (some .int) :: lw_g
abbrev y_Md_layAll : MethodName := ⟨"SquareSymbolsModel", "layAll", "(II)V"⟩
abbrev w_Md_layAll : List Cond := .code y_Md_layAll prog_14_method_25_code 6 none :: lw_g
abbrev y_Md_laySegment : MethodName := ⟨"SquareSymbolsModel", "laySegment", "(III)V"⟩
abbrev w_Md_laySegment : List Cond := .code y_Md_laySegment prog_14_method_24_code 9 none :: lw_g
abbrev y_Md_lay : MethodName := ⟨"SquareSymbolsModel", "lay", "(II)V"⟩
abbrev w_Md_lay : List Cond := .code y_Md_lay prog_14_method_23_code 5 none :: lw_g
abbrev y_Md_check : MethodName := ⟨"SquareSymbolsModel", "check", "(II)V"⟩
abbrev w_Md_check : List Cond := .code y_Md_check prog_14_method_32_code 10 none :: lw_g
abbrev y_Md_generate : MethodName := ⟨"SquareSymbolsModel", "generate", "(I)V"⟩
abbrev w_Md_generate : List Cond := .code y_Md_generate prog_14_method_28_code 5 none :: lw_g
abbrev y_Md_two : MethodName := ⟨"SquareSymbolsModel", "two", "(I)I"⟩
abbrev w_Md_two : List Cond := .code y_Md_two prog_14_method_27_code 4 (some .int) :: lw_g
abbrev y_Md_times : MethodName := ⟨"SquareSymbolsModel", "times", "(II)I"⟩
abbrev w_Md_times : List Cond := .code y_Md_times prog_14_method_26_code 5 (some .int) :: lw_g
abbrev y_Md_shareOf : MethodName := ⟨"SquareSymbolsModel", "shareOf", "(III)I"⟩
abbrev w_Md_shareOf : List Cond := .code y_Md_shareOf prog_14_method_29_code 6 (some .int) :: lw_g
abbrev y_Md_startOf : MethodName := ⟨"SquareSymbolsModel", "startOf", "(III)I"⟩
abbrev w_Md_startOf : List Cond := .code y_Md_startOf prog_14_method_30_code 6 (some .int) :: lw_g
abbrev y_Md_placeOf : MethodName := ⟨"SquareSymbolsModel", "placeOf", "(IIII)I"⟩
abbrev w_Md_placeOf : List Cond := .code y_Md_placeOf prog_14_method_31_code 9 (some .int) :: lw_g
abbrev y_Md_frame : MethodName := ⟨"SquareSymbolsModel", "frame", "(I)V"⟩
abbrev w_Md_frame : List Cond := .code y_Md_frame prog_14_method_43_code 6 none :: lw_g
abbrev y_Md_sideOf : MethodName := ⟨"SquareSymbolsModel", "sideOf", "(I)I"⟩
abbrev w_Md_sideOf : List Cond := .code y_Md_sideOf prog_14_method_7_code 1 (some .int) :: lw_g
abbrev y_Md_fix : MethodName := ⟨"SquareSymbolsModel", "fix", "(IIZ)V"⟩
abbrev w_Md_fix : List Cond := .code y_Md_fix prog_14_method_34_code 4 none :: lw_g
abbrev y_Md_moduleAt : MethodName := ⟨"SquareSymbolsModel", "moduleAt", "(II)I"⟩
abbrev w_Md_moduleAt : List Cond := .code y_Md_moduleAt prog_14_method_33_code 3 (some .int) :: lw_g
abbrev y_Md_square : MethodName := ⟨"SquareSymbolsModel", "square", "(IIIZ)V"⟩
abbrev w_Md_square : List Cond := .code y_Md_square prog_14_method_42_code 8 none :: lw_g
abbrev y_Md_greater : MethodName := ⟨"SquareSymbolsModel", "greater", "(II)I"⟩
abbrev w_Md_greater : List Cond := .code y_Md_greater prog_14_method_35_code 4 (some .int) :: lw_g
abbrev y_Md_alignmentAt : MethodName := ⟨"SquareSymbolsModel", "alignmentAt", "(II)I"⟩
abbrev w_Md_alignmentAt : List Cond := .code y_Md_alignmentAt prog_14_method_36_code 4 (some .int) :: lw_g
abbrev y_Md_layForm : MethodName := ⟨"SquareSymbolsModel", "layForm", "(I)V"⟩
abbrev w_Md_layForm : List Cond := .code y_Md_layForm prog_14_method_41_code 4 none :: lw_g
abbrev y_Md_formWord : MethodName := ⟨"SquareSymbolsModel", "formWord", "(I)I"⟩
abbrev w_Md_formWord : List Cond := .code y_Md_formWord prog_14_method_38_code 1 (some .int) :: lw_g
abbrev y_Md_shortWord : MethodName := ⟨"SquareSymbolsModel", "shortWord", "(III)I"⟩
abbrev w_Md_shortWord : List Cond := .code y_Md_shortWord prog_14_method_37_code 5 (some .int) :: lw_g
abbrev y_Md_formX : MethodName := ⟨"SquareSymbolsModel", "formX", "(IZI)I"⟩
abbrev w_Md_formX : List Cond := .code y_Md_formX prog_14_method_39_code 3 (some .int) :: lw_g
abbrev y_Md_formY : MethodName := ⟨"SquareSymbolsModel", "formY", "(IZI)I"⟩
abbrev w_Md_formY : List Cond := .code y_Md_formY prog_14_method_40_code 3 (some .int) :: lw_g
abbrev y_Md_formNumber : MethodName := ⟨"SquareSymbolsModel", "formNumber", "(II)I"⟩
abbrev w_Md_formNumber : List Cond := .code y_Md_formNumber prog_14_method_49_code 3 (some .int) :: lw_g
abbrev y_Md_goThrough : MethodName := ⟨"SquareSymbolsModel", "goThrough", "(IZI)V"⟩
abbrev w_Md_goThrough : List Cond := .code y_Md_goThrough prog_14_method_45_code 13 none :: lw_g
abbrev y_Md_masked : MethodName := ⟨"SquareSymbolsModel", "masked", "(III)Z"⟩
abbrev w_Md_masked : List Cond := .code y_Md_masked prog_14_method_44_code 3 (some .boolean) :: lw_g
abbrev y_Md_penalty : MethodName := ⟨"SquareSymbolsModel", "penalty", "()I"⟩
abbrev w_Md_penalty : List Cond := .code y_Md_penalty prog_14_method_48_code 6 (some .int) :: lw_g
abbrev y_Md_lines : MethodName := ⟨"SquareSymbolsModel", "lines", "(Z)I"⟩
abbrev w_Md_lines : List Cond := .code y_Md_lines prog_14_method_47_code 8 (some .int) :: lw_g
abbrev y_Md_module : MethodName := ⟨"SquareSymbolsModel", "module", "(IIZ)I"⟩
abbrev w_Md_module : List Cond := .code y_Md_module prog_14_method_46_code 4 (some .int) :: lw_g
abbrev y_Md_blank : MethodName := ⟨"SquareSymbolsModel", "blank", "(I)I"⟩
abbrev w_Md_blank : List Cond := .code y_Md_blank prog_14_method_53_code 3 (some .int) :: lw_g
abbrev y_Md_told : MethodName := ⟨"SquareSymbolsModel", "told", "(I)I"⟩
abbrev w_Md_told : List Cond := .code y_Md_told prog_14_method_54_code 2 (some .int) :: lw_g
abbrev y_Md_segment : MethodName := ⟨"SquareSymbolsModel", "segment", "(II)I"⟩
abbrev w_Md_segment : List Cond := .code y_Md_segment prog_14_method_55_code 3 (some .int) :: lw_g
abbrev y_Md_row : MethodName := ⟨"SquareSymbolsModel", "row", "(II)J"⟩
abbrev w_Md_row : List Cond := .code y_Md_row prog_14_method_56_code 9 (some .long) :: lw_g
abbrev y_Md_spoil : MethodName := ⟨"SquareSymbolsModel", "spoil", "(IIJ)I"⟩
abbrev w_Md_spoil : List Cond := .code y_Md_spoil prog_14_method_57_code 10 (some .int) :: lw_g
abbrev y_Md_read : MethodName := ⟨"SquareSymbolsModel", "read", "()I"⟩
abbrev w_Md_read : List Cond := .code y_Md_read prog_14_method_73_code 6 (some .int) :: lw_g
abbrev y_Md_formNumberRead : MethodName := ⟨"SquareSymbolsModel", "formNumberRead", "()I"⟩
abbrev w_Md_formNumberRead : List Cond := .code y_Md_formNumberRead prog_14_method_66_code 4 (some .int) :: lw_g
abbrev y_Md_formBits : MethodName := ⟨"SquareSymbolsModel", "formBits", "(Z)I"⟩
abbrev w_Md_formBits : List Cond := .code y_Md_formBits prog_14_method_64_code 4 (some .int) :: lw_g
abbrev y_Md_ones : MethodName := ⟨"SquareSymbolsModel", "ones", "(I)I"⟩
abbrev w_Md_ones : List Cond := .code y_Md_ones prog_14_method_65_code 3 (some .int) :: lw_g
abbrev y_Md_allBlocks : MethodName := ⟨"SquareSymbolsModel", "allBlocks", "(II)I"⟩
abbrev w_Md_allBlocks : List Cond := .code y_Md_allBlocks prog_14_method_68_code 10 (some .int) :: lw_g
abbrev y_Md_spared : MethodName := ⟨"SquareSymbolsModel", "spared", "(II)I"⟩
abbrev w_Md_spared : List Cond := .code y_Md_spared prog_14_method_67_code 2 (some .int) :: lw_g
abbrev y_Md_correct : MethodName := ⟨"SquareSymbolsModel", "correct", "(III)I"⟩
abbrev w_Md_correct : List Cond := .code y_Md_correct prog_14_method_63_code 7 (some .int) :: lw_g
abbrev y_Md_isZero : MethodName := ⟨"SquareSymbolsModel", "isZero", "([III)Z"⟩
abbrev w_Md_isZero : List Cond := .code y_Md_isZero prog_14_method_58_code 9 (some .boolean) :: lw_g
abbrev y_Md_finds : MethodName := ⟨"SquareSymbolsModel", "finds", "(II)Z"⟩
abbrev w_Md_finds : List Cond := .code y_Md_finds prog_14_method_61_code 8 (some .boolean) :: lw_g
abbrev y_Md_solves : MethodName := ⟨"SquareSymbolsModel", "solves", "(I)Z"⟩
abbrev w_Md_solves : List Cond := .code y_Md_solves prog_14_method_60_code 8 (some .boolean) :: lw_g
abbrev y_Md_inverse : MethodName := ⟨"SquareSymbolsModel", "inverse", "(I)I"⟩
abbrev w_Md_inverse : List Cond := .code y_Md_inverse prog_14_method_59_code 2 (some .int) :: lw_g
abbrev y_Md_mends : MethodName := ⟨"SquareSymbolsModel", "mends", "(II)Z"⟩
abbrev w_Md_mends : List Cond := .code y_Md_mends prog_14_method_62_code 5 (some .boolean) :: lw_g
abbrev y_Md_segments : MethodName := ⟨"SquareSymbolsModel", "segments", "(I)V"⟩
abbrev w_Md_segments : List Cond := .code y_Md_segments prog_14_method_72_code 7 none :: lw_g
abbrev y_Md_next : MethodName := ⟨"SquareSymbolsModel", "next", "(I)I"⟩
abbrev w_Md_next : List Cond := .code y_Md_next prog_14_method_69_code 4 (some .int) :: lw_g
abbrev y_Md_group : MethodName := ⟨"SquareSymbolsModel", "group", "(II)V"⟩
abbrev w_Md_group : List Cond := .code y_Md_group prog_14_method_71_code 7 none :: lw_g
abbrev y_Md_byteOf : MethodName := ⟨"SquareSymbolsModel", "byteOf", "(I)I"⟩
abbrev w_Md_byteOf : List Cond := .code y_Md_byteOf prog_14_method_15_code 1 (some .int) :: lw_g
abbrev y_Md_take : MethodName := ⟨"SquareSymbolsModel", "take", "(I)V"⟩
abbrev w_Md_take : List Cond := .code y_Md_take prog_14_method_70_code 2 none :: lw_g
abbrev y_Md_fault : MethodName := ⟨"SquareSymbolsModel", "fault", "()I"⟩
abbrev w_Md_fault : List Cond := .code y_Md_fault prog_14_method_74_code 1 (some .int) :: lw_g
abbrev y_Md_reading : MethodName := ⟨"SquareSymbolsModel", "reading", "(I)I"⟩
abbrev w_Md_reading : List Cond := .code y_Md_reading prog_14_method_75_code 2 (some .int) :: lw_g
theorem d_Md_thrown_0 : decode prog_14_method_2_code 0 = .ok (.aload_n 0, 1) := by decide +kernel
theorem d_Md_thrown_1 : decode prog_14_method_2_code 1 = .ok (.getfield 73, 3) := by decide +kernel
theorem d_Md_thrown_4 : decode prog_14_method_2_code 4 = .ok (.ireturn, 1) := by decide +kernel
theorem d_Md_put_0 : decode prog_14_method_3_code 0 = .ok (.aload_n 0, 1) := by decide +kernel
theorem d_Md_put_1 : decode prog_14_method_3_code 1 = .ok (.iload_n 1, 1) := by decide +kernel
theorem d_Md_put_2 : decode prog_14_method_3_code 2 = .ok (.iconst 1, 1) := by decide +kernel
theorem d_Md_put_3 : decode prog_14_method_3_code 3 = .ok (.if_icmp .lt 9, 3) := by decide +kernel
theorem d_Md_put_6 : decode prog_14_method_3_code 6 = .ok (.iload_n 1, 1) := by decide +kernel
theorem d_Md_put_7 : decode prog_14_method_3_code 7 = .ok (.bipush 8, 2) := by decide +kernel
theorem d_Md_put_9 : decode prog_14_method_3_code 9 = .ok (.if_icmp .le 7, 3) := by decide +kernel
theorem d_Md_put_12 : decode prog_14_method_3_code 12 = .ok (.iconst 1, 1) := by decide +kernel
theorem d_Md_put_13 : decode prog_14_method_3_code 13 = .ok (.goto 4, 3) := by decide +kernel
theorem d_Md_put_16 : decode prog_14_method_3_code 16 = .ok (.iconst 0, 1) := by decide +kernel
theorem d_Md_put_17 : decode prog_14_method_3_code 17 = .ok (.putfield 73, 3) := by decide +kernel
theorem d_Md_put_20 : decode prog_14_method_3_code 20 = .ok (.aload_n 0, 1) := by decide +kernel
theorem d_Md_put_21 : decode prog_14_method_3_code 21 = .ok (.getfield 73, 3) := by decide +kernel
theorem d_Md_put_24 : decode prog_14_method_3_code 24 = .ok (.ifCond .le 5, 3) := by decide +kernel
theorem d_Md_put_27 : decode prog_14_method_3_code 27 = .ok (.iconst 0, 1) := by decide +kernel
theorem d_Md_put_28 : decode prog_14_method_3_code 28 = .ok (.ireturn, 1) := by decide +kernel
theorem d_Md_put_29 : decode prog_14_method_3_code 29 = .ok (.aload_n 0, 1) := by decide +kernel
theorem d_Md_put_30 : decode prog_14_method_3_code 30 = .ok (.getfield 77, 3) := by decide +kernel
theorem d_Md_put_33 : decode prog_14_method_3_code 33 = .ok (.iload_n 1, 1) := by decide +kernel
theorem d_Md_put_34 : decode prog_14_method_3_code 34 = .ok (.iadd, 1) := by decide +kernel
theorem d_Md_put_35 : decode prog_14_method_3_code 35 = .ok (.sipush 3000, 3) := by decide +kernel
theorem d_Md_put_38 : decode prog_14_method_3_code 38 = .ok (.if_icmp .le 5, 3) := by decide +kernel
theorem d_Md_put_41 : decode prog_14_method_3_code 41 = .ok (.iconst (-1), 1) := by decide +kernel
theorem d_Md_put_42 : decode prog_14_method_3_code 42 = .ok (.ireturn, 1) := by decide +kernel
theorem d_Md_put_43 : decode prog_14_method_3_code 43 = .ok (.iconst 0, 1) := by decide +kernel
theorem d_Md_put_44 : decode prog_14_method_3_code 44 = .ok (.istore 4, 2) := by decide +kernel
theorem d_Md_put_46 : decode prog_14_method_3_code 46 = .ok (.iload 4, 2) := by decide +kernel
theorem d_Md_put_48 : decode prog_14_method_3_code 48 = .ok (.iload_n 1, 1) := by decide +kernel
theorem d_Md_put_49 : decode prog_14_method_3_code 49 = .ok (.if_icmp .ge 40, 3) := by decide +kernel
theorem d_Md_put_52 : decode prog_14_method_3_code 52 = .ok (.aload_n 0, 1) := by decide +kernel
theorem d_Md_put_53 : decode prog_14_method_3_code 53 = .ok (.getfield 16, 3) := by decide +kernel
theorem d_Md_put_56 : decode prog_14_method_3_code 56 = .ok (.aload_n 0, 1) := by decide +kernel
theorem d_Md_put_57 : decode prog_14_method_3_code 57 = .ok (.getfield 77, 3) := by decide +kernel
theorem d_Md_put_60 : decode prog_14_method_3_code 60 = .ok (.lload_n 2, 1) := by decide +kernel
theorem d_Md_put_61 : decode prog_14_method_3_code 61 = .ok (.bipush 8, 2) := by decide +kernel
theorem d_Md_put_63 : decode prog_14_method_3_code 63 = .ok (.iload 4, 2) := by decide +kernel
theorem d_Md_put_65 : decode prog_14_method_3_code 65 = .ok (.imul, 1) := by decide +kernel
theorem d_Md_put_66 : decode prog_14_method_3_code 66 = .ok (.lshr, 1) := by decide +kernel
theorem d_Md_put_67 : decode prog_14_method_3_code 67 = .ok (.ldc2_w 80, 3) := by decide +kernel
theorem d_Md_put_70 : decode prog_14_method_3_code 70 = .ok (.land, 1) := by decide +kernel
theorem d_Md_put_71 : decode prog_14_method_3_code 71 = .ok (.l2i, 1) := by decide +kernel
theorem d_Md_put_72 : decode prog_14_method_3_code 72 = .ok (.iastore, 1) := by decide +kernel
theorem d_Md_put_73 : decode prog_14_method_3_code 73 = .ok (.aload_n 0, 1) := by decide +kernel
theorem d_Md_put_74 : decode prog_14_method_3_code 74 = .ok (.dup, 1) := by decide +kernel
theorem d_Md_put_75 : decode prog_14_method_3_code 75 = .ok (.getfield 77, 3) := by decide +kernel
theorem d_Md_put_78 : decode prog_14_method_3_code 78 = .ok (.iconst 1, 1) := by decide +kernel
theorem d_Md_put_79 : decode prog_14_method_3_code 79 = .ok (.iadd, 1) := by decide +kernel
theorem d_Md_put_80 : decode prog_14_method_3_code 80 = .ok (.putfield 77, 3) := by decide +kernel
theorem d_Md_put_83 : decode prog_14_method_3_code 83 = .ok (.iinc 4 1, 3) := by decide +kernel
theorem d_Md_put_86 : decode prog_14_method_3_code 86 = .ok (.goto (-40), 3) := by decide +kernel
theorem d_Md_put_89 : decode prog_14_method_3_code 89 = .ok (.aload_n 0, 1) := by decide +kernel
theorem d_Md_put_90 : decode prog_14_method_3_code 90 = .ok (.getfield 77, 3) := by decide +kernel
theorem d_Md_put_93 : decode prog_14_method_3_code 93 = .ok (.ireturn, 1) := by decide +kernel
theorem d_Md_repeat_0 : decode prog_14_method_4_code 0 = .ok (.aload_n 0, 1) := by decide +kernel
theorem d_Md_repeat_1 : decode prog_14_method_4_code 1 = .ok (.iload_n 1, 1) := by decide +kernel
theorem d_Md_repeat_2 : decode prog_14_method_4_code 2 = .ok (.ifCond .lt 14, 3) := by decide +kernel
theorem d_Md_repeat_5 : decode prog_14_method_4_code 5 = .ok (.iload_n 1, 1) := by decide +kernel
theorem d_Md_repeat_6 : decode prog_14_method_4_code 6 = .ok (.sipush 255, 3) := by decide +kernel
theorem d_Md_repeat_9 : decode prog_14_method_4_code 9 = .ok (.if_icmp .gt 7, 3) := by decide +kernel
theorem d_Md_repeat_12 : decode prog_14_method_4_code 12 = .ok (.iload_n 2, 1) := by decide +kernel
theorem d_Md_repeat_13 : decode prog_14_method_4_code 13 = .ok (.ifCond .ge 7, 3) := by decide +kernel
theorem d_Md_repeat_16 : decode prog_14_method_4_code 16 = .ok (.iconst 1, 1) := by decide +kernel
theorem d_Md_repeat_17 : decode prog_14_method_4_code 17 = .ok (.goto 4, 3) := by decide +kernel
theorem d_Md_repeat_20 : decode prog_14_method_4_code 20 = .ok (.iconst 0, 1) := by decide +kernel
theorem d_Md_repeat_21 : decode prog_14_method_4_code 21 = .ok (.putfield 73, 3) := by decide +kernel
theorem d_Md_repeat_24 : decode prog_14_method_4_code 24 = .ok (.aload_n 0, 1) := by decide +kernel
theorem d_Md_repeat_25 : decode prog_14_method_4_code 25 = .ok (.getfield 73, 3) := by decide +kernel
theorem d_Md_repeat_28 : decode prog_14_method_4_code 28 = .ok (.ifCond .le 5, 3) := by decide +kernel
theorem d_Md_repeat_31 : decode prog_14_method_4_code 31 = .ok (.iconst 0, 1) := by decide +kernel
theorem d_Md_repeat_32 : decode prog_14_method_4_code 32 = .ok (.ireturn, 1) := by decide +kernel
theorem d_Md_repeat_33 : decode prog_14_method_4_code 33 = .ok (.iload_n 2, 1) := by decide +kernel
theorem d_Md_repeat_34 : decode prog_14_method_4_code 34 = .ok (.sipush 3000, 3) := by decide +kernel
theorem d_Md_repeat_37 : decode prog_14_method_4_code 37 = .ok (.aload_n 0, 1) := by decide +kernel
theorem d_Md_repeat_38 : decode prog_14_method_4_code 38 = .ok (.getfield 77, 3) := by decide +kernel
theorem d_Md_repeat_41 : decode prog_14_method_4_code 41 = .ok (.isub, 1) := by decide +kernel
theorem d_Md_repeat_42 : decode prog_14_method_4_code 42 = .ok (.if_icmp .le 5, 3) := by decide +kernel
theorem d_Md_repeat_45 : decode prog_14_method_4_code 45 = .ok (.iconst (-1), 1) := by decide +kernel
theorem d_Md_repeat_46 : decode prog_14_method_4_code 46 = .ok (.ireturn, 1) := by decide +kernel
theorem d_Md_repeat_47 : decode prog_14_method_4_code 47 = .ok (.iconst 0, 1) := by decide +kernel
theorem d_Md_repeat_48 : decode prog_14_method_4_code 48 = .ok (.istore_n 3, 1) := by decide +kernel
theorem d_Md_repeat_49 : decode prog_14_method_4_code 49 = .ok (.iload_n 3, 1) := by decide +kernel
theorem d_Md_repeat_50 : decode prog_14_method_4_code 50 = .ok (.iload_n 2, 1) := by decide +kernel
theorem d_Md_repeat_51 : decode prog_14_method_4_code 51 = .ok (.if_icmp .ge 29, 3) := by decide +kernel
theorem d_Md_repeat_54 : decode prog_14_method_4_code 54 = .ok (.aload_n 0, 1) := by decide +kernel
theorem d_Md_repeat_55 : decode prog_14_method_4_code 55 = .ok (.getfield 16, 3) := by decide +kernel
theorem d_Md_repeat_58 : decode prog_14_method_4_code 58 = .ok (.aload_n 0, 1) := by decide +kernel
theorem d_Md_repeat_59 : decode prog_14_method_4_code 59 = .ok (.getfield 77, 3) := by decide +kernel
theorem d_Md_repeat_62 : decode prog_14_method_4_code 62 = .ok (.iload_n 1, 1) := by decide +kernel
theorem d_Md_repeat_63 : decode prog_14_method_4_code 63 = .ok (.iastore, 1) := by decide +kernel
theorem d_Md_repeat_64 : decode prog_14_method_4_code 64 = .ok (.aload_n 0, 1) := by decide +kernel
theorem d_Md_repeat_65 : decode prog_14_method_4_code 65 = .ok (.dup, 1) := by decide +kernel
theorem d_Md_repeat_66 : decode prog_14_method_4_code 66 = .ok (.getfield 77, 3) := by decide +kernel
theorem d_Md_repeat_69 : decode prog_14_method_4_code 69 = .ok (.iconst 1, 1) := by decide +kernel
theorem d_Md_repeat_70 : decode prog_14_method_4_code 70 = .ok (.iadd, 1) := by decide +kernel
theorem d_Md_repeat_71 : decode prog_14_method_4_code 71 = .ok (.putfield 77, 3) := by decide +kernel
theorem d_Md_repeat_74 : decode prog_14_method_4_code 74 = .ok (.iinc 3 1, 3) := by decide +kernel
theorem d_Md_repeat_77 : decode prog_14_method_4_code 77 = .ok (.goto (-28), 3) := by decide +kernel
theorem d_Md_repeat_80 : decode prog_14_method_4_code 80 = .ok (.aload_n 0, 1) := by decide +kernel
theorem d_Md_repeat_81 : decode prog_14_method_4_code 81 = .ok (.getfield 77, 3) := by decide +kernel
theorem d_Md_repeat_84 : decode prog_14_method_4_code 84 = .ok (.ireturn, 1) := by decide +kernel
theorem d_Md_wipe_0 : decode prog_14_method_5_code 0 = .ok (.aload_n 0, 1) := by decide +kernel
theorem d_Md_wipe_1 : decode prog_14_method_5_code 1 = .ok (.iconst 0, 1) := by decide +kernel
theorem d_Md_wipe_2 : decode prog_14_method_5_code 2 = .ok (.putfield 73, 3) := by decide +kernel
theorem d_Md_wipe_5 : decode prog_14_method_5_code 5 = .ok (.aload_n 0, 1) := by decide +kernel
theorem d_Md_wipe_6 : decode prog_14_method_5_code 6 = .ok (.getfield 77, 3) := by decide +kernel
theorem d_Md_wipe_9 : decode prog_14_method_5_code 9 = .ok (.istore_n 1, 1) := by decide +kernel
theorem d_Md_wipe_10 : decode prog_14_method_5_code 10 = .ok (.aload_n 0, 1) := by decide +kernel
theorem d_Md_wipe_11 : decode prog_14_method_5_code 11 = .ok (.iconst 0, 1) := by decide +kernel
theorem d_Md_wipe_12 : decode prog_14_method_5_code 12 = .ok (.putfield 77, 3) := by decide +kernel
theorem d_Md_wipe_15 : decode prog_14_method_5_code 15 = .ok (.iload_n 1, 1) := by decide +kernel
theorem d_Md_wipe_16 : decode prog_14_method_5_code 16 = .ok (.ireturn, 1) := by decide +kernel
theorem d_Md_at_0 : decode prog_14_method_6_code 0 = .ok (.aload_n 0, 1) := by decide +kernel
theorem d_Md_at_1 : decode prog_14_method_6_code 1 = .ok (.iconst 0, 1) := by decide +kernel
theorem d_Md_at_2 : decode prog_14_method_6_code 2 = .ok (.putfield 73, 3) := by decide +kernel
theorem d_Md_at_5 : decode prog_14_method_6_code 5 = .ok (.iload_n 1, 1) := by decide +kernel
theorem d_Md_at_6 : decode prog_14_method_6_code 6 = .ok (.ifCond .lt 11, 3) := by decide +kernel
theorem d_Md_at_9 : decode prog_14_method_6_code 9 = .ok (.iload_n 1, 1) := by decide +kernel
theorem d_Md_at_10 : decode prog_14_method_6_code 10 = .ok (.aload_n 0, 1) := by decide +kernel
theorem d_Md_at_11 : decode prog_14_method_6_code 11 = .ok (.getfield 77, 3) := by decide +kernel
theorem d_Md_at_14 : decode prog_14_method_6_code 14 = .ok (.if_icmp .lt 7, 3) := by decide +kernel
theorem d_Md_at_17 : decode prog_14_method_6_code 17 = .ok (.iconst (-1), 1) := by decide +kernel
theorem d_Md_at_18 : decode prog_14_method_6_code 18 = .ok (.goto 9, 3) := by decide +kernel
theorem d_Md_at_21 : decode prog_14_method_6_code 21 = .ok (.aload_n 0, 1) := by decide +kernel
theorem d_Md_at_22 : decode prog_14_method_6_code 22 = .ok (.getfield 16, 3) := by decide +kernel
theorem d_Md_at_25 : decode prog_14_method_6_code 25 = .ok (.iload_n 1, 1) := by decide +kernel
theorem d_Md_at_26 : decode prog_14_method_6_code 26 = .ok (.iaload, 1) := by decide +kernel
theorem d_Md_at_27 : decode prog_14_method_6_code 27 = .ok (.ireturn, 1) := by decide +kernel
theorem d_Md_make_0 : decode prog_14_method_52_code 0 = .ok (.aload_n 0, 1) := by decide +kernel
theorem d_Md_make_1 : decode prog_14_method_52_code 1 = .ok (.iload_n 1, 1) := by decide +kernel
theorem d_Md_make_2 : decode prog_14_method_52_code 2 = .ok (.ifCond .lt 29, 3) := by decide +kernel
theorem d_Md_make_5 : decode prog_14_method_52_code 5 = .ok (.iload_n 1, 1) := by decide +kernel
theorem d_Md_make_6 : decode prog_14_method_52_code 6 = .ok (.iconst 3, 1) := by decide +kernel
theorem d_Md_make_7 : decode prog_14_method_52_code 7 = .ok (.if_icmp .gt 24, 3) := by decide +kernel
theorem d_Md_make_10 : decode prog_14_method_52_code 10 = .ok (.iload_n 2, 1) := by decide +kernel
theorem d_Md_make_11 : decode prog_14_method_52_code 11 = .ok (.ifCond .lt 20, 3) := by decide +kernel
theorem d_Md_make_14 : decode prog_14_method_52_code 14 = .ok (.iload_n 2, 1) := by decide +kernel
theorem d_Md_make_15 : decode prog_14_method_52_code 15 = .ok (.bipush 40, 2) := by decide +kernel
theorem d_Md_make_17 : decode prog_14_method_52_code 17 = .ok (.if_icmp .gt 14, 3) := by decide +kernel
theorem d_Md_make_20 : decode prog_14_method_52_code 20 = .ok (.iload_n 3, 1) := by decide +kernel
theorem d_Md_make_21 : decode prog_14_method_52_code 21 = .ok (.iconst (-1), 1) := by decide +kernel
theorem d_Md_make_22 : decode prog_14_method_52_code 22 = .ok (.if_icmp .lt 9, 3) := by decide +kernel
theorem d_Md_make_25 : decode prog_14_method_52_code 25 = .ok (.iload_n 3, 1) := by decide +kernel
theorem d_Md_make_26 : decode prog_14_method_52_code 26 = .ok (.bipush 7, 2) := by decide +kernel
theorem d_Md_make_28 : decode prog_14_method_52_code 28 = .ok (.if_icmp .le 7, 3) := by decide +kernel
theorem d_Md_make_31 : decode prog_14_method_52_code 31 = .ok (.iconst 1, 1) := by decide +kernel
theorem d_Md_make_32 : decode prog_14_method_52_code 32 = .ok (.goto 4, 3) := by decide +kernel
theorem d_Md_make_35 : decode prog_14_method_52_code 35 = .ok (.iconst 0, 1) := by decide +kernel
theorem d_Md_make_36 : decode prog_14_method_52_code 36 = .ok (.putfield 73, 3) := by decide +kernel
theorem d_Md_make_39 : decode prog_14_method_52_code 39 = .ok (.aload_n 0, 1) := by decide +kernel
theorem d_Md_make_40 : decode prog_14_method_52_code 40 = .ok (.getfield 73, 3) := by decide +kernel
theorem d_Md_make_43 : decode prog_14_method_52_code 43 = .ok (.ifCond .le 5, 3) := by decide +kernel
theorem d_Md_make_46 : decode prog_14_method_52_code 46 = .ok (.iconst 0, 1) := by decide +kernel
theorem d_Md_make_47 : decode prog_14_method_52_code 47 = .ok (.ireturn, 1) := by decide +kernel
theorem d_Md_make_48 : decode prog_14_method_52_code 48 = .ok (.aload_n 0, 1) := by decide +kernel
theorem d_Md_make_49 : decode prog_14_method_52_code 49 = .ok (.iload_n 1, 1) := by decide +kernel
theorem d_Md_make_50 : decode prog_14_method_52_code 50 = .ok (.iload_n 2, 1) := by decide +kernel
theorem d_Md_make_51 : decode prog_14_method_52_code 51 = .ok (.invokevirtual 220, 3) := by decide +kernel
theorem d_Md_make_54 : decode prog_14_method_52_code 54 = .ok (.istore 4, 2) := by decide +kernel
theorem d_Md_make_56 : decode prog_14_method_52_code 56 = .ok (.iload 4, 2) := by decide +kernel
theorem d_Md_make_58 : decode prog_14_method_52_code 58 = .ok (.ifCond .ge 5, 3) := by decide +kernel
theorem d_Md_make_61 : decode prog_14_method_52_code 61 = .ok (.iconst (-1), 1) := by decide +kernel
theorem d_Md_make_62 : decode prog_14_method_52_code 62 = .ok (.ireturn, 1) := by decide +kernel
theorem d_Md_make_63 : decode prog_14_method_52_code 63 = .ok (.aload_n 0, 1) := by decide +kernel
theorem d_Md_make_64 : decode prog_14_method_52_code 64 = .ok (.iload 4, 2) := by decide +kernel
theorem d_Md_make_66 : decode prog_14_method_52_code 66 = .ok (.iload_n 1, 1) := by decide +kernel
theorem d_Md_make_67 : decode prog_14_method_52_code 67 = .ok (.invokevirtual 223, 3) := by decide +kernel
theorem d_Md_make_70 : decode prog_14_method_52_code 70 = .ok (.aload_n 0, 1) := by decide +kernel
theorem d_Md_make_71 : decode prog_14_method_52_code 71 = .ok (.iload 4, 2) := by decide +kernel
theorem d_Md_make_73 : decode prog_14_method_52_code 73 = .ok (.iload_n 1, 1) := by decide +kernel
theorem d_Md_make_74 : decode prog_14_method_52_code 74 = .ok (.invokevirtual 226, 3) := by decide +kernel
theorem d_Md_make_77 : decode prog_14_method_52_code 77 = .ok (.aload_n 0, 1) := by decide +kernel
theorem d_Md_make_78 : decode prog_14_method_52_code 78 = .ok (.iload 4, 2) := by decide +kernel
theorem d_Md_make_80 : decode prog_14_method_52_code 80 = .ok (.putfield 229, 3) := by decide +kernel
theorem d_Md_make_83 : decode prog_14_method_52_code 83 = .ok (.aload_n 0, 1) := by decide +kernel
theorem d_Md_make_84 : decode prog_14_method_52_code 84 = .ok (.iload 4, 2) := by decide +kernel
theorem d_Md_make_86 : decode prog_14_method_52_code 86 = .ok (.invokevirtual 232, 3) := by decide +kernel
theorem d_Md_make_89 : decode prog_14_method_52_code 89 = .ok (.iload 4, 2) := by decide +kernel
theorem d_Md_make_91 : decode prog_14_method_52_code 91 = .ok (.invokestatic 82, 3) := by decide +kernel
theorem d_Md_make_94 : decode prog_14_method_52_code 94 = .ok (.istore 5, 2) := by decide +kernel
theorem d_Md_make_96 : decode prog_14_method_52_code 96 = .ok (.iload_n 3, 1) := by decide +kernel
theorem d_Md_make_97 : decode prog_14_method_52_code 97 = .ok (.istore 6, 2) := by decide +kernel
theorem d_Md_make_99 : decode prog_14_method_52_code 99 = .ok (.iconst (-1), 1) := by decide +kernel
theorem d_Md_make_100 : decode prog_14_method_52_code 100 = .ok (.istore 7, 2) := by decide +kernel
theorem d_Md_make_102 : decode prog_14_method_52_code 102 = .ok (.iconst 0, 1) := by decide +kernel
theorem d_Md_make_103 : decode prog_14_method_52_code 103 = .ok (.istore 8, 2) := by decide +kernel
theorem d_Md_make_105 : decode prog_14_method_52_code 105 = .ok (.iload 8, 2) := by decide +kernel
theorem d_Md_make_107 : decode prog_14_method_52_code 107 = .ok (.bipush 8, 2) := by decide +kernel
theorem d_Md_make_109 : decode prog_14_method_52_code 109 = .ok (.if_icmp .ge 64, 3) := by decide +kernel
theorem d_Md_make_112 : decode prog_14_method_52_code 112 = .ok (.iload_n 3, 1) := by decide +kernel
theorem d_Md_make_113 : decode prog_14_method_52_code 113 = .ok (.ifCond .lt 9, 3) := by decide +kernel
theorem d_Md_make_116 : decode prog_14_method_52_code 116 = .ok (.iload_n 3, 1) := by decide +kernel
theorem d_Md_make_117 : decode prog_14_method_52_code 117 = .ok (.iload 8, 2) := by decide +kernel
theorem d_Md_make_119 : decode prog_14_method_52_code 119 = .ok (.if_icmp .ne 48, 3) := by decide +kernel
theorem d_Md_make_122 : decode prog_14_method_52_code 122 = .ok (.aload_n 0, 1) := by decide +kernel
theorem d_Md_make_123 : decode prog_14_method_52_code 123 = .ok (.iload_n 1, 1) := by decide +kernel
theorem d_Md_make_124 : decode prog_14_method_52_code 124 = .ok (.iload 8, 2) := by decide +kernel
theorem d_Md_make_126 : decode prog_14_method_52_code 126 = .ok (.invokestatic 235, 3) := by decide +kernel
theorem d_Md_make_129 : decode prog_14_method_52_code 129 = .ok (.invokevirtual 199, 3) := by decide +kernel
theorem d_Md_make_132 : decode prog_14_method_52_code 132 = .ok (.aload_n 0, 1) := by decide +kernel
theorem d_Md_make_133 : decode prog_14_method_52_code 133 = .ok (.iload 8, 2) := by decide +kernel
theorem d_Md_make_135 : decode prog_14_method_52_code 135 = .ok (.iconst 0, 1) := by decide +kernel
theorem d_Md_make_136 : decode prog_14_method_52_code 136 = .ok (.iload 5, 2) := by decide +kernel
theorem d_Md_make_138 : decode prog_14_method_52_code 138 = .ok (.invokevirtual 238, 3) := by decide +kernel
theorem d_Md_make_141 : decode prog_14_method_52_code 141 = .ok (.aload_n 0, 1) := by decide +kernel
theorem d_Md_make_142 : decode prog_14_method_52_code 142 = .ok (.invokevirtual 242, 3) := by decide +kernel
theorem d_Md_make_145 : decode prog_14_method_52_code 145 = .ok (.istore 9, 2) := by decide +kernel
theorem d_Md_make_147 : decode prog_14_method_52_code 147 = .ok (.iload 7, 2) := by decide +kernel
theorem d_Md_make_149 : decode prog_14_method_52_code 149 = .ok (.ifCond .lt 10, 3) := by decide +kernel
theorem d_Md_make_152 : decode prog_14_method_52_code 152 = .ok (.iload 9, 2) := by decide +kernel
theorem d_Md_make_154 : decode prog_14_method_52_code 154 = .ok (.iload 7, 2) := by decide +kernel
theorem d_Md_make_156 : decode prog_14_method_52_code 156 = .ok (.if_icmp .ge 11, 3) := by decide +kernel
theorem d_Md_make_159 : decode prog_14_method_52_code 159 = .ok (.iload 9, 2) := by decide +kernel
theorem d_Md_make_161 : decode prog_14_method_52_code 161 = .ok (.istore 7, 2) := by decide +kernel
theorem d_Md_make_163 : decode prog_14_method_52_code 163 = .ok (.iload 8, 2) := by decide +kernel
theorem d_Md_make_165 : decode prog_14_method_52_code 165 = .ok (.istore 6, 2) := by decide +kernel
theorem d_Md_make_167 : decode prog_14_method_52_code 167 = .ok (.iinc 8 1, 3) := by decide +kernel
theorem d_Md_make_170 : decode prog_14_method_52_code 170 = .ok (.goto (-65), 3) := by decide +kernel
theorem d_Md_make_173 : decode prog_14_method_52_code 173 = .ok (.aload_n 0, 1) := by decide +kernel
theorem d_Md_make_174 : decode prog_14_method_52_code 174 = .ok (.iload_n 1, 1) := by decide +kernel
theorem d_Md_make_175 : decode prog_14_method_52_code 175 = .ok (.iload 6, 2) := by decide +kernel
theorem d_Md_make_177 : decode prog_14_method_52_code 177 = .ok (.invokestatic 235, 3) := by decide +kernel
theorem d_Md_make_180 : decode prog_14_method_52_code 180 = .ok (.invokevirtual 199, 3) := by decide +kernel
theorem d_Md_make_183 : decode prog_14_method_52_code 183 = .ok (.aload_n 0, 1) := by decide +kernel
theorem d_Md_make_184 : decode prog_14_method_52_code 184 = .ok (.iload 6, 2) := by decide +kernel
theorem d_Md_make_186 : decode prog_14_method_52_code 186 = .ok (.iconst 0, 1) := by decide +kernel
theorem d_Md_make_187 : decode prog_14_method_52_code 187 = .ok (.iload 5, 2) := by decide +kernel
theorem d_Md_make_189 : decode prog_14_method_52_code 189 = .ok (.invokevirtual 238, 3) := by decide +kernel
theorem d_Md_make_192 : decode prog_14_method_52_code 192 = .ok (.aload_n 0, 1) := by decide +kernel
theorem d_Md_make_193 : decode prog_14_method_52_code 193 = .ok (.iconst 1, 1) := by decide +kernel
theorem d_Md_make_194 : decode prog_14_method_52_code 194 = .ok (.putfield 246, 3) := by decide +kernel
theorem d_Md_make_197 : decode prog_14_method_52_code 197 = .ok (.aload_n 0, 1) := by decide +kernel
theorem d_Md_make_198 : decode prog_14_method_52_code 198 = .ok (.getfield 25, 3) := by decide +kernel
theorem d_Md_make_201 : decode prog_14_method_52_code 201 = .ok (.iconst 0, 1) := by decide +kernel
theorem d_Md_make_202 : decode prog_14_method_52_code 202 = .ok (.iload 4, 2) := by decide +kernel
theorem d_Md_make_204 : decode prog_14_method_52_code 204 = .ok (.iastore, 1) := by decide +kernel
theorem d_Md_make_205 : decode prog_14_method_52_code 205 = .ok (.aload_n 0, 1) := by decide +kernel
theorem d_Md_make_206 : decode prog_14_method_52_code 206 = .ok (.getfield 25, 3) := by decide +kernel
theorem d_Md_make_209 : decode prog_14_method_52_code 209 = .ok (.iconst 1, 1) := by decide +kernel
theorem d_Md_make_210 : decode prog_14_method_52_code 210 = .ok (.iload_n 1, 1) := by decide +kernel
theorem d_Md_make_211 : decode prog_14_method_52_code 211 = .ok (.iastore, 1) := by decide +kernel
theorem d_Md_make_212 : decode prog_14_method_52_code 212 = .ok (.aload_n 0, 1) := by decide +kernel
theorem d_Md_make_213 : decode prog_14_method_52_code 213 = .ok (.getfield 25, 3) := by decide +kernel
theorem d_Md_make_216 : decode prog_14_method_52_code 216 = .ok (.iconst 2, 1) := by decide +kernel
theorem d_Md_make_217 : decode prog_14_method_52_code 217 = .ok (.iload 6, 2) := by decide +kernel
theorem d_Md_make_219 : decode prog_14_method_52_code 219 = .ok (.iastore, 1) := by decide +kernel
theorem d_Md_make_220 : decode prog_14_method_52_code 220 = .ok (.aload_n 0, 1) := by decide +kernel
theorem d_Md_make_221 : decode prog_14_method_52_code 221 = .ok (.getfield 25, 3) := by decide +kernel
theorem d_Md_make_224 : decode prog_14_method_52_code 224 = .ok (.iconst 3, 1) := by decide +kernel
theorem d_Md_make_225 : decode prog_14_method_52_code 225 = .ok (.iload 7, 2) := by decide +kernel
theorem d_Md_make_227 : decode prog_14_method_52_code 227 = .ok (.iastore, 1) := by decide +kernel
theorem d_Md_make_228 : decode prog_14_method_52_code 228 = .ok (.aload_n 0, 1) := by decide +kernel
theorem d_Md_make_229 : decode prog_14_method_52_code 229 = .ok (.getfield 25, 3) := by decide +kernel
theorem d_Md_make_232 : decode prog_14_method_52_code 232 = .ok (.iconst 4, 1) := by decide +kernel
theorem d_Md_make_233 : decode prog_14_method_52_code 233 = .ok (.aload_n 0, 1) := by decide +kernel
theorem d_Md_make_234 : decode prog_14_method_52_code 234 = .ok (.getfield 127, 3) := by decide +kernel
theorem d_Md_make_237 : decode prog_14_method_52_code 237 = .ok (.iastore, 1) := by decide +kernel
theorem d_Md_make_238 : decode prog_14_method_52_code 238 = .ok (.aload_n 0, 1) := by decide +kernel
theorem d_Md_make_239 : decode prog_14_method_52_code 239 = .ok (.getfield 25, 3) := by decide +kernel
theorem d_Md_make_242 : decode prog_14_method_52_code 242 = .ok (.iconst 5, 1) := by decide +kernel
theorem d_Md_make_243 : decode prog_14_method_52_code 243 = .ok (.aload_n 0, 1) := by decide +kernel
theorem d_Md_make_244 : decode prog_14_method_52_code 244 = .ok (.getfield 121, 3) := by decide +kernel
theorem d_Md_make_247 : decode prog_14_method_52_code 247 = .ok (.iastore, 1) := by decide +kernel
theorem d_Md_make_248 : decode prog_14_method_52_code 248 = .ok (.iload 4, 2) := by decide +kernel
theorem d_Md_make_250 : decode prog_14_method_52_code 250 = .ok (.ireturn, 1) := by decide +kernel
theorem d_Md_versionFor_0 : decode prog_14_method_51_code 0 = .ok (.iload_n 2, 1) := by decide +kernel
theorem d_Md_versionFor_1 : decode prog_14_method_51_code 1 = .ok (.ifCond .le 18, 3) := by decide +kernel
theorem d_Md_versionFor_4 : decode prog_14_method_51_code 4 = .ok (.aload_n 0, 1) := by decide +kernel
theorem d_Md_versionFor_5 : decode prog_14_method_51_code 5 = .ok (.iload_n 2, 1) := by decide +kernel
theorem d_Md_versionFor_6 : decode prog_14_method_51_code 6 = .ok (.iload_n 1, 1) := by decide +kernel
theorem d_Md_versionFor_7 : decode prog_14_method_51_code 7 = .ok (.invokevirtual 217, 3) := by decide +kernel
theorem d_Md_versionFor_10 : decode prog_14_method_51_code 10 = .ok (.ifCond .eq 7, 3) := by decide +kernel
theorem d_Md_versionFor_13 : decode prog_14_method_51_code 13 = .ok (.iload_n 2, 1) := by decide +kernel
theorem d_Md_versionFor_14 : decode prog_14_method_51_code 14 = .ok (.goto 4, 3) := by decide +kernel
theorem d_Md_versionFor_17 : decode prog_14_method_51_code 17 = .ok (.iconst (-1), 1) := by decide +kernel
theorem d_Md_versionFor_18 : decode prog_14_method_51_code 18 = .ok (.ireturn, 1) := by decide +kernel
theorem d_Md_versionFor_19 : decode prog_14_method_51_code 19 = .ok (.iconst 0, 1) := by decide +kernel
theorem d_Md_versionFor_20 : decode prog_14_method_51_code 20 = .ok (.istore_n 3, 1) := by decide +kernel
theorem d_Md_versionFor_21 : decode prog_14_method_51_code 21 = .ok (.iload_n 3, 1) := by decide +kernel
theorem d_Md_versionFor_22 : decode prog_14_method_51_code 22 = .ok (.iconst 3, 1) := by decide +kernel
theorem d_Md_versionFor_23 : decode prog_14_method_51_code 23 = .ok (.if_icmp .ge 106, 3) := by decide +kernel
theorem d_Md_versionFor_26 : decode prog_14_method_51_code 26 = .ok (.iload_n 3, 1) := by decide +kernel
theorem d_Md_versionFor_27 : decode prog_14_method_51_code 27 = .ok (.ifCond .ne 7, 3) := by decide +kernel
theorem d_Md_versionFor_30 : decode prog_14_method_51_code 30 = .ok (.iconst 1, 1) := by decide +kernel
theorem d_Md_versionFor_31 : decode prog_14_method_51_code 31 = .ok (.goto 15, 3) := by decide +kernel
theorem d_Md_versionFor_34 : decode prog_14_method_51_code 34 = .ok (.iload_n 3, 1) := by decide +kernel
theorem d_Md_versionFor_35 : decode prog_14_method_51_code 35 = .ok (.iconst 1, 1) := by decide +kernel
theorem d_Md_versionFor_36 : decode prog_14_method_51_code 36 = .ok (.if_icmp .ne 8, 3) := by decide +kernel
theorem d_Md_versionFor_39 : decode prog_14_method_51_code 39 = .ok (.bipush 10, 2) := by decide +kernel
theorem d_Md_versionFor_41 : decode prog_14_method_51_code 41 = .ok (.goto 5, 3) := by decide +kernel
theorem d_Md_versionFor_44 : decode prog_14_method_51_code 44 = .ok (.bipush 27, 2) := by decide +kernel
theorem d_Md_versionFor_46 : decode prog_14_method_51_code 46 = .ok (.istore 4, 2) := by decide +kernel
theorem d_Md_versionFor_48 : decode prog_14_method_51_code 48 = .ok (.iload_n 3, 1) := by decide +kernel
theorem d_Md_versionFor_49 : decode prog_14_method_51_code 49 = .ok (.ifCond .ne 8, 3) := by decide +kernel
theorem d_Md_versionFor_52 : decode prog_14_method_51_code 52 = .ok (.bipush 9, 2) := by decide +kernel
theorem d_Md_versionFor_54 : decode prog_14_method_51_code 54 = .ok (.goto 15, 3) := by decide +kernel
theorem d_Md_versionFor_57 : decode prog_14_method_51_code 57 = .ok (.iload_n 3, 1) := by decide +kernel
theorem d_Md_versionFor_58 : decode prog_14_method_51_code 58 = .ok (.iconst 1, 1) := by decide +kernel
theorem d_Md_versionFor_59 : decode prog_14_method_51_code 59 = .ok (.if_icmp .ne 8, 3) := by decide +kernel
theorem d_Md_versionFor_62 : decode prog_14_method_51_code 62 = .ok (.bipush 26, 2) := by decide +kernel
theorem d_Md_versionFor_64 : decode prog_14_method_51_code 64 = .ok (.goto 5, 3) := by decide +kernel
theorem d_Md_versionFor_67 : decode prog_14_method_51_code 67 = .ok (.bipush 40, 2) := by decide +kernel
theorem d_Md_versionFor_69 : decode prog_14_method_51_code 69 = .ok (.istore 5, 2) := by decide +kernel
theorem d_Md_versionFor_71 : decode prog_14_method_51_code 71 = .ok (.aload_n 0, 1) := by decide +kernel
theorem d_Md_versionFor_72 : decode prog_14_method_51_code 72 = .ok (.iload_n 3, 1) := by decide +kernel
theorem d_Md_versionFor_73 : decode prog_14_method_51_code 73 = .ok (.invokevirtual 214, 3) := by decide +kernel
theorem d_Md_versionFor_76 : decode prog_14_method_51_code 76 = .ok (.iload 4, 2) := by decide +kernel
theorem d_Md_versionFor_78 : decode prog_14_method_51_code 78 = .ok (.istore 6, 2) := by decide +kernel
theorem d_Md_versionFor_80 : decode prog_14_method_51_code 80 = .ok (.iload 6, 2) := by decide +kernel
theorem d_Md_versionFor_82 : decode prog_14_method_51_code 82 = .ok (.iload 5, 2) := by decide +kernel
theorem d_Md_versionFor_84 : decode prog_14_method_51_code 84 = .ok (.if_icmp .gt 39, 3) := by decide +kernel
theorem d_Md_versionFor_87 : decode prog_14_method_51_code 87 = .ok (.aload_n 0, 1) := by decide +kernel
theorem d_Md_versionFor_88 : decode prog_14_method_51_code 88 = .ok (.getfield 121, 3) := by decide +kernel
theorem d_Md_versionFor_91 : decode prog_14_method_51_code 91 = .ok (.bipush 8, 2) := by decide +kernel
theorem d_Md_versionFor_93 : decode prog_14_method_51_code 93 = .ok (.aload_n 0, 1) := by decide +kernel
theorem d_Md_versionFor_94 : decode prog_14_method_51_code 94 = .ok (.iload 6, 2) := by decide +kernel
theorem d_Md_versionFor_96 : decode prog_14_method_51_code 96 = .ok (.iload_n 1, 1) := by decide +kernel
theorem d_Md_versionFor_97 : decode prog_14_method_51_code 97 = .ok (.invokevirtual 141, 3) := by decide +kernel
theorem d_Md_versionFor_100 : decode prog_14_method_51_code 100 = .ok (.imul, 1) := by decide +kernel
theorem d_Md_versionFor_101 : decode prog_14_method_51_code 101 = .ok (.if_icmp .gt 16, 3) := by decide +kernel
theorem d_Md_versionFor_104 : decode prog_14_method_51_code 104 = .ok (.aload_n 0, 1) := by decide +kernel
theorem d_Md_versionFor_105 : decode prog_14_method_51_code 105 = .ok (.iload 6, 2) := by decide +kernel
theorem d_Md_versionFor_107 : decode prog_14_method_51_code 107 = .ok (.iload_n 1, 1) := by decide +kernel
theorem d_Md_versionFor_108 : decode prog_14_method_51_code 108 = .ok (.invokevirtual 217, 3) := by decide +kernel
theorem d_Md_versionFor_111 : decode prog_14_method_51_code 111 = .ok (.ifCond .eq 6, 3) := by decide +kernel
theorem d_Md_versionFor_114 : decode prog_14_method_51_code 114 = .ok (.iload 6, 2) := by decide +kernel
theorem d_Md_versionFor_116 : decode prog_14_method_51_code 116 = .ok (.ireturn, 1) := by decide +kernel
theorem d_Md_versionFor_117 : decode prog_14_method_51_code 117 = .ok (.iinc 6 1, 3) := by decide +kernel
theorem d_Md_versionFor_120 : decode prog_14_method_51_code 120 = .ok (.goto (-40), 3) := by decide +kernel
theorem d_Md_versionFor_123 : decode prog_14_method_51_code 123 = .ok (.iinc 3 1, 3) := by decide +kernel
theorem d_Md_versionFor_126 : decode prog_14_method_51_code 126 = .ok (.goto (-105), 3) := by decide +kernel
theorem d_Md_versionFor_129 : decode prog_14_method_51_code 129 = .ok (.iconst (-1), 1) := by decide +kernel
theorem d_Md_versionFor_130 : decode prog_14_method_51_code 130 = .ok (.ireturn, 1) := by decide +kernel
theorem d_Md_fits_0 : decode prog_14_method_50_code 0 = .ok (.aload_n 0, 1) := by decide +kernel
theorem d_Md_fits_1 : decode prog_14_method_50_code 1 = .ok (.iload_n 1, 1) := by decide +kernel
theorem d_Md_fits_2 : decode prog_14_method_50_code 2 = .ok (.invokestatic 134, 3) := by decide +kernel
theorem d_Md_fits_5 : decode prog_14_method_50_code 5 = .ok (.invokevirtual 214, 3) := by decide +kernel
theorem d_Md_fits_8 : decode prog_14_method_50_code 8 = .ok (.aload_n 0, 1) := by decide +kernel
theorem d_Md_fits_9 : decode prog_14_method_50_code 9 = .ok (.getfield 121, 3) := by decide +kernel
theorem d_Md_fits_12 : decode prog_14_method_50_code 12 = .ok (.bipush 8, 2) := by decide +kernel
theorem d_Md_fits_14 : decode prog_14_method_50_code 14 = .ok (.aload_n 0, 1) := by decide +kernel
theorem d_Md_fits_15 : decode prog_14_method_50_code 15 = .ok (.iload_n 1, 1) := by decide +kernel
theorem d_Md_fits_16 : decode prog_14_method_50_code 16 = .ok (.iload_n 2, 1) := by decide +kernel
theorem d_Md_fits_17 : decode prog_14_method_50_code 17 = .ok (.invokevirtual 141, 3) := by decide +kernel
theorem d_Md_fits_20 : decode prog_14_method_50_code 20 = .ok (.imul, 1) := by decide +kernel
theorem d_Md_fits_21 : decode prog_14_method_50_code 21 = .ok (.if_icmp .gt 7, 3) := by decide +kernel
theorem d_Md_fits_24 : decode prog_14_method_50_code 24 = .ok (.iconst 1, 1) := by decide +kernel
theorem d_Md_fits_25 : decode prog_14_method_50_code 25 = .ok (.goto 4, 3) := by decide +kernel
theorem d_Md_fits_28 : decode prog_14_method_50_code 28 = .ok (.iconst 0, 1) := by decide +kernel
theorem d_Md_fits_29 : decode prog_14_method_50_code 29 = .ok (.istore_n 3, 1) := by decide +kernel
theorem d_Md_fits_30 : decode prog_14_method_50_code 30 = .ok (.iconst 0, 1) := by decide +kernel
theorem d_Md_fits_31 : decode prog_14_method_50_code 31 = .ok (.istore 4, 2) := by decide +kernel
theorem d_Md_fits_33 : decode prog_14_method_50_code 33 = .ok (.iconst 0, 1) := by decide +kernel
theorem d_Md_fits_34 : decode prog_14_method_50_code 34 = .ok (.istore 5, 2) := by decide +kernel
theorem d_Md_fits_36 : decode prog_14_method_50_code 36 = .ok (.iload 5, 2) := by decide +kernel
theorem d_Md_fits_38 : decode prog_14_method_50_code 38 = .ok (.aload_n 0, 1) := by decide +kernel
theorem d_Md_fits_39 : decode prog_14_method_50_code 39 = .ok (.getfield 77, 3) := by decide +kernel
theorem d_Md_fits_42 : decode prog_14_method_50_code 42 = .ok (.if_icmp .ge 74, 3) := by decide +kernel
theorem d_Md_fits_45 : decode prog_14_method_50_code 45 = .ok (.iload 5, 2) := by decide +kernel
theorem d_Md_fits_47 : decode prog_14_method_50_code 47 = .ok (.ifCond .le 29, 3) := by decide +kernel
theorem d_Md_fits_50 : decode prog_14_method_50_code 50 = .ok (.aload_n 0, 1) := by decide +kernel
theorem d_Md_fits_51 : decode prog_14_method_50_code 51 = .ok (.getfield 34, 3) := by decide +kernel
theorem d_Md_fits_54 : decode prog_14_method_50_code 54 = .ok (.iload 5, 2) := by decide +kernel
theorem d_Md_fits_56 : decode prog_14_method_50_code 56 = .ok (.iaload, 1) := by decide +kernel
theorem d_Md_fits_57 : decode prog_14_method_50_code 57 = .ok (.aload_n 0, 1) := by decide +kernel
theorem d_Md_fits_58 : decode prog_14_method_50_code 58 = .ok (.getfield 34, 3) := by decide +kernel
theorem d_Md_fits_61 : decode prog_14_method_50_code 61 = .ok (.iload 5, 2) := by decide +kernel
theorem d_Md_fits_63 : decode prog_14_method_50_code 63 = .ok (.iconst 1, 1) := by decide +kernel
theorem d_Md_fits_64 : decode prog_14_method_50_code 64 = .ok (.isub, 1) := by decide +kernel
theorem d_Md_fits_65 : decode prog_14_method_50_code 65 = .ok (.iaload, 1) := by decide +kernel
theorem d_Md_fits_66 : decode prog_14_method_50_code 66 = .ok (.if_icmp .ne 10, 3) := by decide +kernel
theorem d_Md_fits_69 : decode prog_14_method_50_code 69 = .ok (.iload 4, 2) := by decide +kernel
theorem d_Md_fits_71 : decode prog_14_method_50_code 71 = .ok (.iconst 1, 1) := by decide +kernel
theorem d_Md_fits_72 : decode prog_14_method_50_code 72 = .ok (.iadd, 1) := by decide +kernel
theorem d_Md_fits_73 : decode prog_14_method_50_code 73 = .ok (.goto 4, 3) := by decide +kernel
theorem d_Md_fits_76 : decode prog_14_method_50_code 76 = .ok (.iconst 1, 1) := by decide +kernel
theorem d_Md_fits_77 : decode prog_14_method_50_code 77 = .ok (.istore 4, 2) := by decide +kernel
theorem d_Md_fits_79 : decode prog_14_method_50_code 79 = .ok (.iload_n 3, 1) := by decide +kernel
theorem d_Md_fits_80 : decode prog_14_method_50_code 80 = .ok (.ifCond .eq 28, 3) := by decide +kernel
theorem d_Md_fits_83 : decode prog_14_method_50_code 83 = .ok (.iload 4, 2) := by decide +kernel
theorem d_Md_fits_85 : decode prog_14_method_50_code 85 = .ok (.iconst 1, 1) := by decide +kernel
theorem d_Md_fits_86 : decode prog_14_method_50_code 86 = .ok (.aload_n 0, 1) := by decide +kernel
theorem d_Md_fits_87 : decode prog_14_method_50_code 87 = .ok (.getfield 34, 3) := by decide +kernel
theorem d_Md_fits_90 : decode prog_14_method_50_code 90 = .ok (.iload 5, 2) := by decide +kernel
theorem d_Md_fits_92 : decode prog_14_method_50_code 92 = .ok (.iaload, 1) := by decide +kernel
theorem d_Md_fits_93 : decode prog_14_method_50_code 93 = .ok (.iload_n 1, 1) := by decide +kernel
theorem d_Md_fits_94 : decode prog_14_method_50_code 94 = .ok (.invokestatic 134, 3) := by decide +kernel
theorem d_Md_fits_97 : decode prog_14_method_50_code 97 = .ok (.invokestatic 99, 3) := by decide +kernel
theorem d_Md_fits_100 : decode prog_14_method_50_code 100 = .ok (.ishl, 1) := by decide +kernel
theorem d_Md_fits_101 : decode prog_14_method_50_code 101 = .ok (.if_icmp .ge 7, 3) := by decide +kernel
theorem d_Md_fits_104 : decode prog_14_method_50_code 104 = .ok (.iconst 1, 1) := by decide +kernel
theorem d_Md_fits_105 : decode prog_14_method_50_code 105 = .ok (.goto 4, 3) := by decide +kernel
theorem d_Md_fits_108 : decode prog_14_method_50_code 108 = .ok (.iconst 0, 1) := by decide +kernel
theorem d_Md_fits_109 : decode prog_14_method_50_code 109 = .ok (.istore_n 3, 1) := by decide +kernel
theorem d_Md_fits_110 : decode prog_14_method_50_code 110 = .ok (.iinc 5 1, 3) := by decide +kernel
theorem d_Md_fits_113 : decode prog_14_method_50_code 113 = .ok (.goto (-77), 3) := by decide +kernel
theorem d_Md_fits_116 : decode prog_14_method_50_code 116 = .ok (.iload_n 3, 1) := by decide +kernel
theorem d_Md_fits_117 : decode prog_14_method_50_code 117 = .ok (.ireturn, 1) := by decide +kernel
theorem d_Md_rank_0 : decode prog_14_method_12_code 0 = .ok (.iload_n 0, 1) := by decide +kernel
theorem d_Md_rank_1 : decode prog_14_method_12_code 1 = .ok (.bipush 10, 2) := by decide +kernel
theorem d_Md_rank_3 : decode prog_14_method_12_code 3 = .ok (.if_icmp .ge 7, 3) := by decide +kernel
theorem d_Md_rank_6 : decode prog_14_method_12_code 6 = .ok (.iconst 0, 1) := by decide +kernel
theorem d_Md_rank_7 : decode prog_14_method_12_code 7 = .ok (.goto 14, 3) := by decide +kernel
theorem d_Md_rank_10 : decode prog_14_method_12_code 10 = .ok (.iload_n 0, 1) := by decide +kernel
theorem d_Md_rank_11 : decode prog_14_method_12_code 11 = .ok (.bipush 27, 2) := by decide +kernel
theorem d_Md_rank_13 : decode prog_14_method_12_code 13 = .ok (.if_icmp .ge 7, 3) := by decide +kernel
theorem d_Md_rank_16 : decode prog_14_method_12_code 16 = .ok (.iconst 1, 1) := by decide +kernel
theorem d_Md_rank_17 : decode prog_14_method_12_code 17 = .ok (.goto 4, 3) := by decide +kernel
theorem d_Md_rank_20 : decode prog_14_method_12_code 20 = .ok (.iconst 2, 1) := by decide +kernel
theorem d_Md_rank_21 : decode prog_14_method_12_code 21 = .ok (.ireturn, 1) := by decide +kernel
theorem d_Md_divide_0 : decode prog_14_method_22_code 0 = .ok (.iconst 0, 1) := by decide +kernel
theorem d_Md_divide_1 : decode prog_14_method_22_code 1 = .ok (.istore_n 2, 1) := by decide +kernel
theorem d_Md_divide_2 : decode prog_14_method_22_code 2 = .ok (.iload_n 2, 1) := by decide +kernel
theorem d_Md_divide_3 : decode prog_14_method_22_code 3 = .ok (.bipush 6, 2) := by decide +kernel
theorem d_Md_divide_5 : decode prog_14_method_22_code 5 = .ok (.if_icmp .ge 24, 3) := by decide +kernel
theorem d_Md_divide_8 : decode prog_14_method_22_code 8 = .ok (.aload_n 0, 1) := by decide +kernel
theorem d_Md_divide_9 : decode prog_14_method_22_code 9 = .ok (.getfield 37, 3) := by decide +kernel
theorem d_Md_divide_12 : decode prog_14_method_22_code 12 = .ok (.bipush 6, 2) := by decide +kernel
theorem d_Md_divide_14 : decode prog_14_method_22_code 14 = .ok (.aload_n 0, 1) := by decide +kernel
theorem d_Md_divide_15 : decode prog_14_method_22_code 15 = .ok (.getfield 77, 3) := by decide +kernel
theorem d_Md_divide_18 : decode prog_14_method_22_code 18 = .ok (.imul, 1) := by decide +kernel
theorem d_Md_divide_19 : decode prog_14_method_22_code 19 = .ok (.iload_n 2, 1) := by decide +kernel
theorem d_Md_divide_20 : decode prog_14_method_22_code 20 = .ok (.iadd, 1) := by decide +kernel
theorem d_Md_divide_21 : decode prog_14_method_22_code 21 = .ok (.iconst 0, 1) := by decide +kernel
theorem d_Md_divide_22 : decode prog_14_method_22_code 22 = .ok (.iastore, 1) := by decide +kernel
theorem d_Md_divide_23 : decode prog_14_method_22_code 23 = .ok (.iinc 2 1, 3) := by decide +kernel
theorem d_Md_divide_26 : decode prog_14_method_22_code 26 = .ok (.goto (-24), 3) := by decide +kernel
theorem d_Md_divide_29 : decode prog_14_method_22_code 29 = .ok (.aload_n 0, 1) := by decide +kernel
theorem d_Md_divide_30 : decode prog_14_method_22_code 30 = .ok (.getfield 77, 3) := by decide +kernel
theorem d_Md_divide_33 : decode prog_14_method_22_code 33 = .ok (.iconst 1, 1) := by decide +kernel
theorem d_Md_divide_34 : decode prog_14_method_22_code 34 = .ok (.isub, 1) := by decide +kernel
theorem d_Md_divide_35 : decode prog_14_method_22_code 35 = .ok (.istore_n 2, 1) := by decide +kernel
theorem d_Md_divide_36 : decode prog_14_method_22_code 36 = .ok (.iload_n 2, 1) := by decide +kernel
theorem d_Md_divide_37 : decode prog_14_method_22_code 37 = .ok (.ifCond .le 41, 3) := by decide +kernel
theorem d_Md_divide_40 : decode prog_14_method_22_code 40 = .ok (.iconst 0, 1) := by decide +kernel
theorem d_Md_divide_41 : decode prog_14_method_22_code 41 = .ok (.istore_n 3, 1) := by decide +kernel
theorem d_Md_divide_42 : decode prog_14_method_22_code 42 = .ok (.iload_n 3, 1) := by decide +kernel
theorem d_Md_divide_43 : decode prog_14_method_22_code 43 = .ok (.bipush 6, 2) := by decide +kernel
theorem d_Md_divide_45 : decode prog_14_method_22_code 45 = .ok (.if_icmp .ge 27, 3) := by decide +kernel
theorem d_Md_divide_48 : decode prog_14_method_22_code 48 = .ok (.aload_n 0, 1) := by decide +kernel
theorem d_Md_divide_49 : decode prog_14_method_22_code 49 = .ok (.getfield 37, 3) := by decide +kernel
theorem d_Md_divide_52 : decode prog_14_method_22_code 52 = .ok (.bipush 6, 2) := by decide +kernel
theorem d_Md_divide_54 : decode prog_14_method_22_code 54 = .ok (.iload_n 2, 1) := by decide +kernel
theorem d_Md_divide_55 : decode prog_14_method_22_code 55 = .ok (.imul, 1) := by decide +kernel
theorem d_Md_divide_56 : decode prog_14_method_22_code 56 = .ok (.iload_n 3, 1) := by decide +kernel
theorem d_Md_divide_57 : decode prog_14_method_22_code 57 = .ok (.iadd, 1) := by decide +kernel
theorem d_Md_divide_58 : decode prog_14_method_22_code 58 = .ok (.aload_n 0, 1) := by decide +kernel
theorem d_Md_divide_59 : decode prog_14_method_22_code 59 = .ok (.iload_n 2, 1) := by decide +kernel
theorem d_Md_divide_60 : decode prog_14_method_22_code 60 = .ok (.iload_n 3, 1) := by decide +kernel
theorem d_Md_divide_61 : decode prog_14_method_22_code 61 = .ok (.iload_n 1, 1) := by decide +kernel
theorem d_Md_divide_62 : decode prog_14_method_22_code 62 = .ok (.invokevirtual 118, 3) := by decide +kernel
theorem d_Md_divide_65 : decode prog_14_method_22_code 65 = .ok (.iastore, 1) := by decide +kernel
theorem d_Md_divide_66 : decode prog_14_method_22_code 66 = .ok (.iinc 3 1, 3) := by decide +kernel
theorem d_Md_divide_69 : decode prog_14_method_22_code 69 = .ok (.goto (-27), 3) := by decide +kernel
theorem d_Md_divide_72 : decode prog_14_method_22_code 72 = .ok (.iinc 2 (-1), 3) := by decide +kernel
theorem d_Md_divide_75 : decode prog_14_method_22_code 75 = .ok (.goto (-39), 3) := by decide +kernel
theorem d_Md_divide_78 : decode prog_14_method_22_code 78 = .ok (.aload_n 0, 1) := by decide +kernel
theorem d_Md_divide_79 : decode prog_14_method_22_code 79 = .ok (.aload_n 0, 1) := by decide +kernel
theorem d_Md_divide_80 : decode prog_14_method_22_code 80 = .ok (.getfield 77, 3) := by decide +kernel
theorem d_Md_divide_83 : decode prog_14_method_22_code 83 = .ok (.ifCond .ne 7, 3) := by decide +kernel
theorem d_Md_divide_86 : decode prog_14_method_22_code 86 = .ok (.iconst 0, 1) := by decide +kernel
theorem d_Md_divide_87 : decode prog_14_method_22_code 87 = .ok (.goto 10, 3) := by decide +kernel
theorem d_Md_divide_90 : decode prog_14_method_22_code 90 = .ok (.aload_n 0, 1) := by decide +kernel
theorem d_Md_divide_91 : decode prog_14_method_22_code 91 = .ok (.iconst 0, 1) := by decide +kernel
theorem d_Md_divide_92 : decode prog_14_method_22_code 92 = .ok (.iconst (-1), 1) := by decide +kernel
theorem d_Md_divide_93 : decode prog_14_method_22_code 93 = .ok (.iload_n 1, 1) := by decide +kernel
theorem d_Md_divide_94 : decode prog_14_method_22_code 94 = .ok (.invokevirtual 118, 3) := by decide +kernel
theorem d_Md_divide_97 : decode prog_14_method_22_code 97 = .ok (.putfield 121, 3) := by decide +kernel
theorem d_Md_divide_100 : decode prog_14_method_22_code 100 = .ok (.iconst (-1), 1) := by decide +kernel
theorem d_Md_divide_101 : decode prog_14_method_22_code 101 = .ok (.istore_n 2, 1) := by decide +kernel
theorem d_Md_divide_102 : decode prog_14_method_22_code 102 = .ok (.aload_n 0, 1) := by decide +kernel
theorem d_Md_divide_103 : decode prog_14_method_22_code 103 = .ok (.getfield 121, 3) := by decide +kernel
theorem d_Md_divide_106 : decode prog_14_method_22_code 106 = .ok (.istore_n 3, 1) := by decide +kernel
theorem d_Md_divide_107 : decode prog_14_method_22_code 107 = .ok (.iconst 0, 1) := by decide +kernel
theorem d_Md_divide_108 : decode prog_14_method_22_code 108 = .ok (.istore 4, 2) := by decide +kernel
theorem d_Md_divide_110 : decode prog_14_method_22_code 110 = .ok (.iload 4, 2) := by decide +kernel
theorem d_Md_divide_112 : decode prog_14_method_22_code 112 = .ok (.aload_n 0, 1) := by decide +kernel
theorem d_Md_divide_113 : decode prog_14_method_22_code 113 = .ok (.getfield 77, 3) := by decide +kernel
theorem d_Md_divide_116 : decode prog_14_method_22_code 116 = .ok (.if_icmp .ge 58, 3) := by decide +kernel
theorem d_Md_divide_119 : decode prog_14_method_22_code 119 = .ok (.iconst 0, 1) := by decide +kernel
theorem d_Md_divide_120 : decode prog_14_method_22_code 120 = .ok (.istore 5, 2) := by decide +kernel
theorem d_Md_divide_122 : decode prog_14_method_22_code 122 = .ok (.aload_n 0, 1) := by decide +kernel
theorem d_Md_divide_123 : decode prog_14_method_22_code 123 = .ok (.iload 4, 2) := by decide +kernel
theorem d_Md_divide_125 : decode prog_14_method_22_code 125 = .ok (.iload_n 2, 1) := by decide +kernel
theorem d_Md_divide_126 : decode prog_14_method_22_code 126 = .ok (.iload 5, 2) := by decide +kernel
theorem d_Md_divide_128 : decode prog_14_method_22_code 128 = .ok (.iload_n 1, 1) := by decide +kernel
theorem d_Md_divide_129 : decode prog_14_method_22_code 129 = .ok (.invokevirtual 114, 3) := by decide +kernel
theorem d_Md_divide_132 : decode prog_14_method_22_code 132 = .ok (.iload_n 3, 1) := by decide +kernel
theorem d_Md_divide_133 : decode prog_14_method_22_code 133 = .ok (.if_icmp .eq 9, 3) := by decide +kernel
theorem d_Md_divide_136 : decode prog_14_method_22_code 136 = .ok (.iinc 5 1, 3) := by decide +kernel
theorem d_Md_divide_139 : decode prog_14_method_22_code 139 = .ok (.goto (-17), 3) := by decide +kernel
theorem d_Md_divide_142 : decode prog_14_method_22_code 142 = .ok (.iload_n 3, 1) := by decide +kernel
theorem d_Md_divide_143 : decode prog_14_method_22_code 143 = .ok (.iload_n 2, 1) := by decide +kernel
theorem d_Md_divide_144 : decode prog_14_method_22_code 144 = .ok (.iload 5, 2) := by decide +kernel
theorem d_Md_divide_146 : decode prog_14_method_22_code 146 = .ok (.iload_n 1, 1) := by decide +kernel
theorem d_Md_divide_147 : decode prog_14_method_22_code 147 = .ok (.invokestatic 109, 3) := by decide +kernel
theorem d_Md_divide_150 : decode prog_14_method_22_code 150 = .ok (.isub, 1) := by decide +kernel
theorem d_Md_divide_151 : decode prog_14_method_22_code 151 = .ok (.istore_n 3, 1) := by decide +kernel
theorem d_Md_divide_152 : decode prog_14_method_22_code 152 = .ok (.iload_n 2, 1) := by decide +kernel
theorem d_Md_divide_153 : decode prog_14_method_22_code 153 = .ok (.iload 5, 2) := by decide +kernel
theorem d_Md_divide_155 : decode prog_14_method_22_code 155 = .ok (.invokestatic 102, 3) := by decide +kernel
theorem d_Md_divide_158 : decode prog_14_method_22_code 158 = .ok (.istore_n 2, 1) := by decide +kernel
theorem d_Md_divide_159 : decode prog_14_method_22_code 159 = .ok (.aload_n 0, 1) := by decide +kernel
theorem d_Md_divide_160 : decode prog_14_method_22_code 160 = .ok (.getfield 34, 3) := by decide +kernel
theorem d_Md_divide_163 : decode prog_14_method_22_code 163 = .ok (.iload 4, 2) := by decide +kernel
theorem d_Md_divide_165 : decode prog_14_method_22_code 165 = .ok (.iload 5, 2) := by decide +kernel
theorem d_Md_divide_167 : decode prog_14_method_22_code 167 = .ok (.iastore, 1) := by decide +kernel
theorem d_Md_divide_168 : decode prog_14_method_22_code 168 = .ok (.iinc 4 1, 3) := by decide +kernel
theorem d_Md_divide_171 : decode prog_14_method_22_code 171 = .ok (.goto (-61), 3) := by decide +kernel
theorem d_Md_divide_174 : decode prog_14_method_22_code 174 = .ok (.return_, 1) := by decide +kernel
theorem d_Md_least_0 : decode prog_14_method_21_code 0 = .ok (.ldc 113, 2) := by decide +kernel
theorem d_Md_least_2 : decode prog_14_method_21_code 2 = .ok (.istore 4, 2) := by decide +kernel
theorem d_Md_least_4 : decode prog_14_method_21_code 4 = .ok (.iconst 0, 1) := by decide +kernel
theorem d_Md_least_5 : decode prog_14_method_21_code 5 = .ok (.istore 5, 2) := by decide +kernel
theorem d_Md_least_7 : decode prog_14_method_21_code 7 = .ok (.iload 5, 2) := by decide +kernel
theorem d_Md_least_9 : decode prog_14_method_21_code 9 = .ok (.iconst 3, 1) := by decide +kernel
theorem d_Md_least_10 : decode prog_14_method_21_code 10 = .ok (.if_icmp .ge 36, 3) := by decide +kernel
theorem d_Md_least_13 : decode prog_14_method_21_code 13 = .ok (.aload_n 0, 1) := by decide +kernel
theorem d_Md_least_14 : decode prog_14_method_21_code 14 = .ok (.iload_n 1, 1) := by decide +kernel
theorem d_Md_least_15 : decode prog_14_method_21_code 15 = .ok (.iload_n 2, 1) := by decide +kernel
theorem d_Md_least_16 : decode prog_14_method_21_code 16 = .ok (.iload 5, 2) := by decide +kernel
theorem d_Md_least_18 : decode prog_14_method_21_code 18 = .ok (.iload_n 3, 1) := by decide +kernel
theorem d_Md_least_19 : decode prog_14_method_21_code 19 = .ok (.invokevirtual 114, 3) := by decide +kernel
theorem d_Md_least_22 : decode prog_14_method_21_code 22 = .ok (.istore 6, 2) := by decide +kernel
theorem d_Md_least_24 : decode prog_14_method_21_code 24 = .ok (.iload 6, 2) := by decide +kernel
theorem d_Md_least_26 : decode prog_14_method_21_code 26 = .ok (.iload 4, 2) := by decide +kernel
theorem d_Md_least_28 : decode prog_14_method_21_code 28 = .ok (.if_icmp .ge 8, 3) := by decide +kernel
theorem d_Md_least_31 : decode prog_14_method_21_code 31 = .ok (.iload 6, 2) := by decide +kernel
theorem d_Md_least_33 : decode prog_14_method_21_code 33 = .ok (.goto 5, 3) := by decide +kernel
theorem d_Md_least_36 : decode prog_14_method_21_code 36 = .ok (.iload 4, 2) := by decide +kernel
theorem d_Md_least_38 : decode prog_14_method_21_code 38 = .ok (.istore 4, 2) := by decide +kernel
theorem d_Md_least_40 : decode prog_14_method_21_code 40 = .ok (.iinc 5 1, 3) := by decide +kernel
theorem d_Md_least_43 : decode prog_14_method_21_code 43 = .ok (.goto (-36), 3) := by decide +kernel
theorem d_Md_least_46 : decode prog_14_method_21_code 46 = .ok (.iload 4, 2) := by decide +kernel
theorem d_Md_least_48 : decode prog_14_method_21_code 48 = .ok (.ireturn, 1) := by decide +kernel
theorem d_Md_restOf_0 : decode prog_14_method_20_code 0 = .ok (.iload_n 3, 1) := by decide +kernel
theorem d_Md_restOf_1 : decode prog_14_method_20_code 1 = .ok (.aload_n 0, 1) := by decide +kernel
theorem d_Md_restOf_2 : decode prog_14_method_20_code 2 = .ok (.getfield 16, 3) := by decide +kernel
theorem d_Md_restOf_5 : decode prog_14_method_20_code 5 = .ok (.iload_n 1, 1) := by decide +kernel
theorem d_Md_restOf_6 : decode prog_14_method_20_code 6 = .ok (.iaload, 1) := by decide +kernel
theorem d_Md_restOf_7 : decode prog_14_method_20_code 7 = .ok (.invokestatic 105, 3) := by decide +kernel
theorem d_Md_restOf_10 : decode prog_14_method_20_code 10 = .ok (.ifCond .eq 31, 3) := by decide +kernel
theorem d_Md_restOf_13 : decode prog_14_method_20_code 13 = .ok (.iload_n 2, 1) := by decide +kernel
theorem d_Md_restOf_14 : decode prog_14_method_20_code 14 = .ok (.iload_n 3, 1) := by decide +kernel
theorem d_Md_restOf_15 : decode prog_14_method_20_code 15 = .ok (.iload 4, 2) := by decide +kernel
theorem d_Md_restOf_17 : decode prog_14_method_20_code 17 = .ok (.invokestatic 109, 3) := by decide +kernel
theorem d_Md_restOf_20 : decode prog_14_method_20_code 20 = .ok (.aload_n 0, 1) := by decide +kernel
theorem d_Md_restOf_21 : decode prog_14_method_20_code 21 = .ok (.getfield 37, 3) := by decide +kernel
theorem d_Md_restOf_24 : decode prog_14_method_20_code 24 = .ok (.bipush 6, 2) := by decide +kernel
theorem d_Md_restOf_26 : decode prog_14_method_20_code 26 = .ok (.iload_n 1, 1) := by decide +kernel
theorem d_Md_restOf_27 : decode prog_14_method_20_code 27 = .ok (.iconst 1, 1) := by decide +kernel
theorem d_Md_restOf_28 : decode prog_14_method_20_code 28 = .ok (.iadd, 1) := by decide +kernel
theorem d_Md_restOf_29 : decode prog_14_method_20_code 29 = .ok (.imul, 1) := by decide +kernel
theorem d_Md_restOf_30 : decode prog_14_method_20_code 30 = .ok (.iload_n 2, 1) := by decide +kernel
theorem d_Md_restOf_31 : decode prog_14_method_20_code 31 = .ok (.iload_n 3, 1) := by decide +kernel
theorem d_Md_restOf_32 : decode prog_14_method_20_code 32 = .ok (.invokestatic 102, 3) := by decide +kernel
theorem d_Md_restOf_35 : decode prog_14_method_20_code 35 = .ok (.iadd, 1) := by decide +kernel
theorem d_Md_restOf_36 : decode prog_14_method_20_code 36 = .ok (.iaload, 1) := by decide +kernel
theorem d_Md_restOf_37 : decode prog_14_method_20_code 37 = .ok (.iadd, 1) := by decide +kernel
theorem d_Md_restOf_38 : decode prog_14_method_20_code 38 = .ok (.goto 5, 3) := by decide +kernel
theorem d_Md_restOf_41 : decode prog_14_method_20_code 41 = .ok (.ldc 113, 2) := by decide +kernel
theorem d_Md_restOf_43 : decode prog_14_method_20_code 43 = .ok (.ireturn, 1) := by decide +kernel
theorem d_Md_may_0 : decode prog_14_method_16_code 0 = .ok (.iload_n 0, 1) := by decide +kernel
theorem d_Md_may_1 : decode prog_14_method_16_code 1 = .ok (.iconst 2, 1) := by decide +kernel
theorem d_Md_may_2 : decode prog_14_method_16_code 2 = .ok (.if_icmp .eq 31, 3) := by decide +kernel
theorem d_Md_may_5 : decode prog_14_method_16_code 5 = .ok (.iload_n 0, 1) := by decide +kernel
theorem d_Md_may_6 : decode prog_14_method_16_code 6 = .ok (.iconst 1, 1) := by decide +kernel
theorem d_Md_may_7 : decode prog_14_method_16_code 7 = .ok (.if_icmp .ne 10, 3) := by decide +kernel
theorem d_Md_may_10 : decode prog_14_method_16_code 10 = .ok (.iload_n 1, 1) := by decide +kernel
theorem d_Md_may_11 : decode prog_14_method_16_code 11 = .ok (.invokestatic 93, 3) := by decide +kernel
theorem d_Md_may_14 : decode prog_14_method_16_code 14 = .ok (.ifCond .ge 19, 3) := by decide +kernel
theorem d_Md_may_17 : decode prog_14_method_16_code 17 = .ok (.iload_n 0, 1) := by decide +kernel
theorem d_Md_may_18 : decode prog_14_method_16_code 18 = .ok (.ifCond .ne 19, 3) := by decide +kernel
theorem d_Md_may_21 : decode prog_14_method_16_code 21 = .ok (.iload_n 1, 1) := by decide +kernel
theorem d_Md_may_22 : decode prog_14_method_16_code 22 = .ok (.bipush 48, 2) := by decide +kernel
theorem d_Md_may_24 : decode prog_14_method_16_code 24 = .ok (.if_icmp .lt 13, 3) := by decide +kernel
theorem d_Md_may_27 : decode prog_14_method_16_code 27 = .ok (.iload_n 1, 1) := by decide +kernel
theorem d_Md_may_28 : decode prog_14_method_16_code 28 = .ok (.bipush 57, 2) := by decide +kernel
theorem d_Md_may_30 : decode prog_14_method_16_code 30 = .ok (.if_icmp .gt 7, 3) := by decide +kernel
theorem d_Md_may_33 : decode prog_14_method_16_code 33 = .ok (.iconst 1, 1) := by decide +kernel
theorem d_Md_may_34 : decode prog_14_method_16_code 34 = .ok (.goto 4, 3) := by decide +kernel
theorem d_Md_may_37 : decode prog_14_method_16_code 37 = .ok (.iconst 0, 1) := by decide +kernel
theorem d_Md_may_38 : decode prog_14_method_16_code 38 = .ok (.ireturn, 1) := by decide +kernel
theorem d_Md_signOf_0 : decode prog_14_method_14_code 0 = .ok (.iload_n 0, 1) := by decide +kernel
theorem d_Md_signOf_1 : decode prog_14_method_14_code 1 = .ok (.bipush 48, 2) := by decide +kernel
theorem d_Md_signOf_3 : decode prog_14_method_14_code 3 = .ok (.if_icmp .lt 14, 3) := by decide +kernel
theorem d_Md_signOf_6 : decode prog_14_method_14_code 6 = .ok (.iload_n 0, 1) := by decide +kernel
theorem d_Md_signOf_7 : decode prog_14_method_14_code 7 = .ok (.bipush 57, 2) := by decide +kernel
theorem d_Md_signOf_9 : decode prog_14_method_14_code 9 = .ok (.if_icmp .gt 8, 3) := by decide +kernel
theorem d_Md_signOf_12 : decode prog_14_method_14_code 12 = .ok (.iload_n 0, 1) := by decide +kernel
theorem d_Md_signOf_13 : decode prog_14_method_14_code 13 = .ok (.bipush 48, 2) := by decide +kernel
theorem d_Md_signOf_15 : decode prog_14_method_14_code 15 = .ok (.isub, 1) := by decide +kernel
theorem d_Md_signOf_16 : decode prog_14_method_14_code 16 = .ok (.ireturn, 1) := by decide +kernel
theorem d_Md_signOf_17 : decode prog_14_method_14_code 17 = .ok (.iload_n 0, 1) := by decide +kernel
theorem d_Md_signOf_18 : decode prog_14_method_14_code 18 = .ok (.bipush 65, 2) := by decide +kernel
theorem d_Md_signOf_20 : decode prog_14_method_14_code 20 = .ok (.if_icmp .lt 17, 3) := by decide +kernel
theorem d_Md_signOf_23 : decode prog_14_method_14_code 23 = .ok (.iload_n 0, 1) := by decide +kernel
theorem d_Md_signOf_24 : decode prog_14_method_14_code 24 = .ok (.bipush 90, 2) := by decide +kernel
theorem d_Md_signOf_26 : decode prog_14_method_14_code 26 = .ok (.if_icmp .gt 11, 3) := by decide +kernel
theorem d_Md_signOf_29 : decode prog_14_method_14_code 29 = .ok (.iload_n 0, 1) := by decide +kernel
theorem d_Md_signOf_30 : decode prog_14_method_14_code 30 = .ok (.bipush 65, 2) := by decide +kernel
theorem d_Md_signOf_32 : decode prog_14_method_14_code 32 = .ok (.isub, 1) := by decide +kernel
theorem d_Md_signOf_33 : decode prog_14_method_14_code 33 = .ok (.bipush 10, 2) := by decide +kernel
theorem d_Md_signOf_35 : decode prog_14_method_14_code 35 = .ok (.iadd, 1) := by decide +kernel
theorem d_Md_signOf_36 : decode prog_14_method_14_code 36 = .ok (.ireturn, 1) := by decide +kernel
theorem d_Md_signOf_37 : decode prog_14_method_14_code 37 = .ok (.iload_n 0, 1) := by decide +kernel
theorem d_Md_signOf_38 : decode prog_14_method_14_code 38 = .ok (.tableswitch 149 32 58 #[122, 149, 149, 149, 125, 128, 149, 149, 149, 149, 131, 134, 149, 137, 140, 143, 149, 149, 149, 149, 149, 149, 149, 149, 149, 149, 146], 122) := by decide +kernel
theorem d_Md_signOf_160 : decode prog_14_method_14_code 160 = .ok (.bipush 36, 2) := by decide +kernel
theorem d_Md_signOf_162 : decode prog_14_method_14_code 162 = .ok (.ireturn, 1) := by decide +kernel
theorem d_Md_signOf_163 : decode prog_14_method_14_code 163 = .ok (.bipush 37, 2) := by decide +kernel
theorem d_Md_signOf_165 : decode prog_14_method_14_code 165 = .ok (.ireturn, 1) := by decide +kernel
theorem d_Md_signOf_166 : decode prog_14_method_14_code 166 = .ok (.bipush 38, 2) := by decide +kernel
theorem d_Md_signOf_168 : decode prog_14_method_14_code 168 = .ok (.ireturn, 1) := by decide +kernel
theorem d_Md_signOf_169 : decode prog_14_method_14_code 169 = .ok (.bipush 39, 2) := by decide +kernel
theorem d_Md_signOf_171 : decode prog_14_method_14_code 171 = .ok (.ireturn, 1) := by decide +kernel
theorem d_Md_signOf_172 : decode prog_14_method_14_code 172 = .ok (.bipush 40, 2) := by decide +kernel
theorem d_Md_signOf_174 : decode prog_14_method_14_code 174 = .ok (.ireturn, 1) := by decide +kernel
theorem d_Md_signOf_175 : decode prog_14_method_14_code 175 = .ok (.bipush 41, 2) := by decide +kernel
theorem d_Md_signOf_177 : decode prog_14_method_14_code 177 = .ok (.ireturn, 1) := by decide +kernel
theorem d_Md_signOf_178 : decode prog_14_method_14_code 178 = .ok (.bipush 42, 2) := by decide +kernel
theorem d_Md_signOf_180 : decode prog_14_method_14_code 180 = .ok (.ireturn, 1) := by decide +kernel
theorem d_Md_signOf_181 : decode prog_14_method_14_code 181 = .ok (.bipush 43, 2) := by decide +kernel
theorem d_Md_signOf_183 : decode prog_14_method_14_code 183 = .ok (.ireturn, 1) := by decide +kernel
theorem d_Md_signOf_184 : decode prog_14_method_14_code 184 = .ok (.bipush 44, 2) := by decide +kernel
theorem d_Md_signOf_186 : decode prog_14_method_14_code 186 = .ok (.ireturn, 1) := by decide +kernel
theorem d_Md_signOf_187 : decode prog_14_method_14_code 187 = .ok (.iconst (-1), 1) := by decide +kernel
theorem d_Md_signOf_188 : decode prog_14_method_14_code 188 = .ok (.ireturn, 1) := by decide +kernel
theorem d_Md_costOf_0 : decode prog_14_method_19_code 0 = .ok (.iload_n 0, 1) := by decide +kernel
theorem d_Md_costOf_1 : decode prog_14_method_19_code 1 = .ok (.ifCond .lt 11, 3) := by decide +kernel
theorem d_Md_costOf_4 : decode prog_14_method_19_code 4 = .ok (.iload_n 0, 1) := by decide +kernel
theorem d_Md_costOf_5 : decode prog_14_method_19_code 5 = .ok (.invokestatic 96, 3) := by decide +kernel
theorem d_Md_costOf_8 : decode prog_14_method_19_code 8 = .ok (.iload_n 1, 1) := by decide +kernel
theorem d_Md_costOf_9 : decode prog_14_method_19_code 9 = .ok (.if_icmp .eq 7, 3) := by decide +kernel
theorem d_Md_costOf_12 : decode prog_14_method_19_code 12 = .ok (.iconst 1, 1) := by decide +kernel
theorem d_Md_costOf_13 : decode prog_14_method_19_code 13 = .ok (.goto 4, 3) := by decide +kernel
theorem d_Md_costOf_16 : decode prog_14_method_19_code 16 = .ok (.iconst 0, 1) := by decide +kernel
theorem d_Md_costOf_17 : decode prog_14_method_19_code 17 = .ok (.istore_n 3, 1) := by decide +kernel
theorem d_Md_costOf_18 : decode prog_14_method_19_code 18 = .ok (.iload_n 3, 1) := by decide +kernel
theorem d_Md_costOf_19 : decode prog_14_method_19_code 19 = .ok (.ifCond .eq 13, 3) := by decide +kernel
theorem d_Md_costOf_22 : decode prog_14_method_19_code 22 = .ok (.iconst 4, 1) := by decide +kernel
theorem d_Md_costOf_23 : decode prog_14_method_19_code 23 = .ok (.iload_n 1, 1) := by decide +kernel
theorem d_Md_costOf_24 : decode prog_14_method_19_code 24 = .ok (.iload_n 2, 1) := by decide +kernel
theorem d_Md_costOf_25 : decode prog_14_method_19_code 25 = .ok (.invokestatic 99, 3) := by decide +kernel
theorem d_Md_costOf_28 : decode prog_14_method_19_code 28 = .ok (.iadd, 1) := by decide +kernel
theorem d_Md_costOf_29 : decode prog_14_method_19_code 29 = .ok (.goto 4, 3) := by decide +kernel
theorem d_Md_costOf_32 : decode prog_14_method_19_code 32 = .ok (.iconst 0, 1) := by decide +kernel
theorem d_Md_costOf_33 : decode prog_14_method_19_code 33 = .ok (.istore 4, 2) := by decide +kernel
theorem d_Md_costOf_35 : decode prog_14_method_19_code 35 = .ok (.iload_n 0, 1) := by decide +kernel
theorem d_Md_costOf_36 : decode prog_14_method_19_code 36 = .ok (.iload_n 1, 1) := by decide +kernel
theorem d_Md_costOf_37 : decode prog_14_method_19_code 37 = .ok (.invokestatic 102, 3) := by decide +kernel
theorem d_Md_costOf_40 : decode prog_14_method_19_code 40 = .ok (.istore 5, 2) := by decide +kernel
theorem d_Md_costOf_42 : decode prog_14_method_19_code 42 = .ok (.iload 4, 2) := by decide +kernel
theorem d_Md_costOf_44 : decode prog_14_method_19_code 44 = .ok (.iload_n 1, 1) := by decide +kernel
theorem d_Md_costOf_45 : decode prog_14_method_19_code 45 = .ok (.ifCond .ne 17, 3) := by decide +kernel
theorem d_Md_costOf_48 : decode prog_14_method_19_code 48 = .ok (.iload 5, 2) := by decide +kernel
theorem d_Md_costOf_50 : decode prog_14_method_19_code 50 = .ok (.iconst 1, 1) := by decide +kernel
theorem d_Md_costOf_51 : decode prog_14_method_19_code 51 = .ok (.if_icmp .ne 7, 3) := by decide +kernel
theorem d_Md_costOf_54 : decode prog_14_method_19_code 54 = .ok (.iconst 4, 1) := by decide +kernel
theorem d_Md_costOf_55 : decode prog_14_method_19_code 55 = .ok (.goto 29, 3) := by decide +kernel
theorem d_Md_costOf_58 : decode prog_14_method_19_code 58 = .ok (.iconst 3, 1) := by decide +kernel
theorem d_Md_costOf_59 : decode prog_14_method_19_code 59 = .ok (.goto 25, 3) := by decide +kernel
theorem d_Md_costOf_62 : decode prog_14_method_19_code 62 = .ok (.iload_n 1, 1) := by decide +kernel
theorem d_Md_costOf_63 : decode prog_14_method_19_code 63 = .ok (.iconst 1, 1) := by decide +kernel
theorem d_Md_costOf_64 : decode prog_14_method_19_code 64 = .ok (.if_icmp .ne 18, 3) := by decide +kernel
theorem d_Md_costOf_67 : decode prog_14_method_19_code 67 = .ok (.iload 5, 2) := by decide +kernel
theorem d_Md_costOf_69 : decode prog_14_method_19_code 69 = .ok (.iconst 4, 1) := by decide +kernel
theorem d_Md_costOf_70 : decode prog_14_method_19_code 70 = .ok (.if_icmp .ne 8, 3) := by decide +kernel
theorem d_Md_costOf_73 : decode prog_14_method_19_code 73 = .ok (.bipush 6, 2) := by decide +kernel
theorem d_Md_costOf_75 : decode prog_14_method_19_code 75 = .ok (.goto 9, 3) := by decide +kernel
theorem d_Md_costOf_78 : decode prog_14_method_19_code 78 = .ok (.iconst 5, 1) := by decide +kernel
theorem d_Md_costOf_79 : decode prog_14_method_19_code 79 = .ok (.goto 5, 3) := by decide +kernel
theorem d_Md_costOf_82 : decode prog_14_method_19_code 82 = .ok (.bipush 8, 2) := by decide +kernel
theorem d_Md_costOf_84 : decode prog_14_method_19_code 84 = .ok (.iadd, 1) := by decide +kernel
theorem d_Md_costOf_85 : decode prog_14_method_19_code 85 = .ok (.ireturn, 1) := by decide +kernel
theorem d_Md_modeOf_0 : decode prog_14_method_17_code 0 = .ok (.iload_n 0, 1) := by decide +kernel
theorem d_Md_modeOf_1 : decode prog_14_method_17_code 1 = .ok (.iconst 3, 1) := by decide +kernel
theorem d_Md_modeOf_2 : decode prog_14_method_17_code 2 = .ok (.if_icmp .ge 7, 3) := by decide +kernel
theorem d_Md_modeOf_5 : decode prog_14_method_17_code 5 = .ok (.iconst 0, 1) := by decide +kernel
theorem d_Md_modeOf_6 : decode prog_14_method_17_code 6 = .ok (.goto 13, 3) := by decide +kernel
theorem d_Md_modeOf_9 : decode prog_14_method_17_code 9 = .ok (.iload_n 0, 1) := by decide +kernel
theorem d_Md_modeOf_10 : decode prog_14_method_17_code 10 = .ok (.iconst 5, 1) := by decide +kernel
theorem d_Md_modeOf_11 : decode prog_14_method_17_code 11 = .ok (.if_icmp .ge 7, 3) := by decide +kernel
theorem d_Md_modeOf_14 : decode prog_14_method_17_code 14 = .ok (.iconst 1, 1) := by decide +kernel
theorem d_Md_modeOf_15 : decode prog_14_method_17_code 15 = .ok (.goto 4, 3) := by decide +kernel
theorem d_Md_modeOf_18 : decode prog_14_method_17_code 18 = .ok (.iconst 2, 1) := by decide +kernel
theorem d_Md_modeOf_19 : decode prog_14_method_17_code 19 = .ok (.ireturn, 1) := by decide +kernel
theorem d_Md_lengthBits_0 : decode prog_14_method_13_code 0 = .ok (.iload_n 0, 1) := by decide +kernel
theorem d_Md_lengthBits_1 : decode prog_14_method_13_code 1 = .ok (.ifCond .ne 12, 3) := by decide +kernel
theorem d_Md_lengthBits_4 : decode prog_14_method_13_code 4 = .ok (.bipush 10, 2) := by decide +kernel
theorem d_Md_lengthBits_6 : decode prog_14_method_13_code 6 = .ok (.iconst 2, 1) := by decide +kernel
theorem d_Md_lengthBits_7 : decode prog_14_method_13_code 7 = .ok (.iload_n 1, 1) := by decide +kernel
theorem d_Md_lengthBits_8 : decode prog_14_method_13_code 8 = .ok (.imul, 1) := by decide +kernel
theorem d_Md_lengthBits_9 : decode prog_14_method_13_code 9 = .ok (.iadd, 1) := by decide +kernel
theorem d_Md_lengthBits_10 : decode prog_14_method_13_code 10 = .ok (.goto 28, 3) := by decide +kernel
theorem d_Md_lengthBits_13 : decode prog_14_method_13_code 13 = .ok (.iload_n 0, 1) := by decide +kernel
theorem d_Md_lengthBits_14 : decode prog_14_method_13_code 14 = .ok (.iconst 1, 1) := by decide +kernel
theorem d_Md_lengthBits_15 : decode prog_14_method_13_code 15 = .ok (.if_icmp .ne 12, 3) := by decide +kernel
theorem d_Md_lengthBits_18 : decode prog_14_method_13_code 18 = .ok (.bipush 9, 2) := by decide +kernel
theorem d_Md_lengthBits_20 : decode prog_14_method_13_code 20 = .ok (.iconst 2, 1) := by decide +kernel
theorem d_Md_lengthBits_21 : decode prog_14_method_13_code 21 = .ok (.iload_n 1, 1) := by decide +kernel
theorem d_Md_lengthBits_22 : decode prog_14_method_13_code 22 = .ok (.imul, 1) := by decide +kernel
theorem d_Md_lengthBits_23 : decode prog_14_method_13_code 23 = .ok (.iadd, 1) := by decide +kernel
theorem d_Md_lengthBits_24 : decode prog_14_method_13_code 24 = .ok (.goto 14, 3) := by decide +kernel
theorem d_Md_lengthBits_27 : decode prog_14_method_13_code 27 = .ok (.iload_n 1, 1) := by decide +kernel
theorem d_Md_lengthBits_28 : decode prog_14_method_13_code 28 = .ok (.ifCond .ne 8, 3) := by decide +kernel
theorem d_Md_lengthBits_31 : decode prog_14_method_13_code 31 = .ok (.bipush 8, 2) := by decide +kernel
theorem d_Md_lengthBits_33 : decode prog_14_method_13_code 33 = .ok (.goto 5, 3) := by decide +kernel
theorem d_Md_lengthBits_36 : decode prog_14_method_13_code 36 = .ok (.bipush 16, 2) := by decide +kernel
theorem d_Md_lengthBits_38 : decode prog_14_method_13_code 38 = .ok (.ireturn, 1) := by decide +kernel
theorem d_Md_stateAfter_0 : decode prog_14_method_18_code 0 = .ok (.iload_n 0, 1) := by decide +kernel
theorem d_Md_stateAfter_1 : decode prog_14_method_18_code 1 = .ok (.ifCond .lt 15, 3) := by decide +kernel
theorem d_Md_stateAfter_4 : decode prog_14_method_18_code 4 = .ok (.iload_n 0, 1) := by decide +kernel
theorem d_Md_stateAfter_5 : decode prog_14_method_18_code 5 = .ok (.invokestatic 96, 3) := by decide +kernel
theorem d_Md_stateAfter_8 : decode prog_14_method_18_code 8 = .ok (.iload_n 1, 1) := by decide +kernel
theorem d_Md_stateAfter_9 : decode prog_14_method_18_code 9 = .ok (.if_icmp .ne 7, 3) := by decide +kernel
theorem d_Md_stateAfter_12 : decode prog_14_method_18_code 12 = .ok (.iload_n 0, 1) := by decide +kernel
theorem d_Md_stateAfter_13 : decode prog_14_method_18_code 13 = .ok (.goto 4, 3) := by decide +kernel
theorem d_Md_stateAfter_16 : decode prog_14_method_18_code 16 = .ok (.iconst (-1), 1) := by decide +kernel
theorem d_Md_stateAfter_17 : decode prog_14_method_18_code 17 = .ok (.istore_n 2, 1) := by decide +kernel
theorem d_Md_stateAfter_18 : decode prog_14_method_18_code 18 = .ok (.iload_n 1, 1) := by decide +kernel
theorem d_Md_stateAfter_19 : decode prog_14_method_18_code 19 = .ok (.ifCond .ne 17, 3) := by decide +kernel
theorem d_Md_stateAfter_22 : decode prog_14_method_18_code 22 = .ok (.iload_n 2, 1) := by decide +kernel
theorem d_Md_stateAfter_23 : decode prog_14_method_18_code 23 = .ok (.ifCond .ge 7, 3) := by decide +kernel
theorem d_Md_stateAfter_26 : decode prog_14_method_18_code 26 = .ok (.iconst 1, 1) := by decide +kernel
theorem d_Md_stateAfter_27 : decode prog_14_method_18_code 27 = .ok (.goto 8, 3) := by decide +kernel
theorem d_Md_stateAfter_30 : decode prog_14_method_18_code 30 = .ok (.iload_n 2, 1) := by decide +kernel
theorem d_Md_stateAfter_31 : decode prog_14_method_18_code 31 = .ok (.iconst 1, 1) := by decide +kernel
theorem d_Md_stateAfter_32 : decode prog_14_method_18_code 32 = .ok (.iadd, 1) := by decide +kernel
theorem d_Md_stateAfter_33 : decode prog_14_method_18_code 33 = .ok (.iconst 3, 1) := by decide +kernel
theorem d_Md_stateAfter_34 : decode prog_14_method_18_code 34 = .ok (.irem, 1) := by decide +kernel
theorem d_Md_stateAfter_35 : decode prog_14_method_18_code 35 = .ok (.ireturn, 1) := by decide +kernel
theorem d_Md_stateAfter_36 : decode prog_14_method_18_code 36 = .ok (.iload_n 1, 1) := by decide +kernel
theorem d_Md_stateAfter_37 : decode prog_14_method_18_code 37 = .ok (.iconst 1, 1) := by decide +kernel
theorem d_Md_stateAfter_38 : decode prog_14_method_18_code 38 = .ok (.if_icmp .ne 18, 3) := by decide +kernel
theorem d_Md_stateAfter_41 : decode prog_14_method_18_code 41 = .ok (.iload_n 2, 1) := by decide +kernel
theorem d_Md_stateAfter_42 : decode prog_14_method_18_code 42 = .ok (.ifCond .ge 7, 3) := by decide +kernel
theorem d_Md_stateAfter_45 : decode prog_14_method_18_code 45 = .ok (.iconst 4, 1) := by decide +kernel
theorem d_Md_stateAfter_46 : decode prog_14_method_18_code 46 = .ok (.goto 11, 3) := by decide +kernel
theorem d_Md_stateAfter_49 : decode prog_14_method_18_code 49 = .ok (.bipush 7, 2) := by decide +kernel
theorem d_Md_stateAfter_51 : decode prog_14_method_18_code 51 = .ok (.iload_n 2, 1) := by decide +kernel
theorem d_Md_stateAfter_52 : decode prog_14_method_18_code 52 = .ok (.isub, 1) := by decide +kernel
theorem d_Md_stateAfter_53 : decode prog_14_method_18_code 53 = .ok (.goto 4, 3) := by decide +kernel
theorem d_Md_stateAfter_56 : decode prog_14_method_18_code 56 = .ok (.iconst 5, 1) := by decide +kernel
theorem d_Md_stateAfter_57 : decode prog_14_method_18_code 57 = .ok (.ireturn, 1) := by decide +kernel
theorem d_Md_holds_0 : decode prog_14_method_11_code 0 = .ok (.iload_n 1, 1) := by decide +kernel
theorem d_Md_holds_1 : decode prog_14_method_11_code 1 = .ok (.invokestatic 82, 3) := by decide +kernel
theorem d_Md_holds_4 : decode prog_14_method_11_code 4 = .ok (.aload_n 0, 1) := by decide +kernel
theorem d_Md_holds_5 : decode prog_14_method_11_code 5 = .ok (.iload_n 1, 1) := by decide +kernel
theorem d_Md_holds_6 : decode prog_14_method_11_code 6 = .ok (.iload_n 2, 1) := by decide +kernel
theorem d_Md_holds_7 : decode prog_14_method_11_code 7 = .ok (.invokevirtual 86, 3) := by decide +kernel
theorem d_Md_holds_10 : decode prog_14_method_11_code 10 = .ok (.aload_n 0, 1) := by decide +kernel
theorem d_Md_holds_11 : decode prog_14_method_11_code 11 = .ok (.iload_n 1, 1) := by decide +kernel
theorem d_Md_holds_12 : decode prog_14_method_11_code 12 = .ok (.iload_n 2, 1) := by decide +kernel
theorem d_Md_holds_13 : decode prog_14_method_11_code 13 = .ok (.invokevirtual 90, 3) := by decide +kernel
theorem d_Md_holds_16 : decode prog_14_method_11_code 16 = .ok (.imul, 1) := by decide +kernel
theorem d_Md_holds_17 : decode prog_14_method_11_code 17 = .ok (.isub, 1) := by decide +kernel
theorem d_Md_holds_18 : decode prog_14_method_11_code 18 = .ok (.ireturn, 1) := by decide +kernel
theorem d_Md_allCodewords_0 : decode prog_14_method_8_code 0 = .ok (.iload_n 0, 1) := by decide +kernel
theorem d_Md_allCodewords_1 : decode prog_14_method_8_code 1 = .ok (.bipush 7, 2) := by decide +kernel
theorem d_Md_allCodewords_3 : decode prog_14_method_8_code 3 = .ok (.idiv, 1) := by decide +kernel
theorem d_Md_allCodewords_4 : decode prog_14_method_8_code 4 = .ok (.iconst 2, 1) := by decide +kernel
theorem d_Md_allCodewords_5 : decode prog_14_method_8_code 5 = .ok (.iadd, 1) := by decide +kernel
theorem d_Md_allCodewords_6 : decode prog_14_method_8_code 6 = .ok (.istore_n 1, 1) := by decide +kernel
theorem d_Md_allCodewords_7 : decode prog_14_method_8_code 7 = .ok (.bipush 16, 2) := by decide +kernel
theorem d_Md_allCodewords_9 : decode prog_14_method_8_code 9 = .ok (.iload_n 0, 1) := by decide +kernel
theorem d_Md_allCodewords_10 : decode prog_14_method_8_code 10 = .ok (.imul, 1) := by decide +kernel
theorem d_Md_allCodewords_11 : decode prog_14_method_8_code 11 = .ok (.sipush 128, 3) := by decide +kernel
theorem d_Md_allCodewords_14 : decode prog_14_method_8_code 14 = .ok (.iadd, 1) := by decide +kernel
theorem d_Md_allCodewords_15 : decode prog_14_method_8_code 15 = .ok (.iload_n 0, 1) := by decide +kernel
theorem d_Md_allCodewords_16 : decode prog_14_method_8_code 16 = .ok (.imul, 1) := by decide +kernel
theorem d_Md_allCodewords_17 : decode prog_14_method_8_code 17 = .ok (.bipush 64, 2) := by decide +kernel
theorem d_Md_allCodewords_19 : decode prog_14_method_8_code 19 = .ok (.iadd, 1) := by decide +kernel
theorem d_Md_allCodewords_20 : decode prog_14_method_8_code 20 = .ok (.istore_n 2, 1) := by decide +kernel
theorem d_Md_allCodewords_21 : decode prog_14_method_8_code 21 = .ok (.iload_n 0, 1) := by decide +kernel
theorem d_Md_allCodewords_22 : decode prog_14_method_8_code 22 = .ok (.iconst 1, 1) := by decide +kernel
theorem d_Md_allCodewords_23 : decode prog_14_method_8_code 23 = .ok (.if_icmp .le 20, 3) := by decide +kernel
theorem d_Md_allCodewords_26 : decode prog_14_method_8_code 26 = .ok (.iload_n 2, 1) := by decide +kernel
theorem d_Md_allCodewords_27 : decode prog_14_method_8_code 27 = .ok (.bipush 25, 2) := by decide +kernel
theorem d_Md_allCodewords_29 : decode prog_14_method_8_code 29 = .ok (.iload_n 1, 1) := by decide +kernel
theorem d_Md_allCodewords_30 : decode prog_14_method_8_code 30 = .ok (.imul, 1) := by decide +kernel
theorem d_Md_allCodewords_31 : decode prog_14_method_8_code 31 = .ok (.bipush 10, 2) := by decide +kernel
theorem d_Md_allCodewords_33 : decode prog_14_method_8_code 33 = .ok (.isub, 1) := by decide +kernel
theorem d_Md_allCodewords_34 : decode prog_14_method_8_code 34 = .ok (.iload_n 1, 1) := by decide +kernel
theorem d_Md_allCodewords_35 : decode prog_14_method_8_code 35 = .ok (.imul, 1) := by decide +kernel
theorem d_Md_allCodewords_36 : decode prog_14_method_8_code 36 = .ok (.bipush 55, 2) := by decide +kernel
theorem d_Md_allCodewords_38 : decode prog_14_method_8_code 38 = .ok (.isub, 1) := by decide +kernel
theorem d_Md_allCodewords_39 : decode prog_14_method_8_code 39 = .ok (.isub, 1) := by decide +kernel
theorem d_Md_allCodewords_40 : decode prog_14_method_8_code 40 = .ok (.goto 4, 3) := by decide +kernel
theorem d_Md_allCodewords_43 : decode prog_14_method_8_code 43 = .ok (.iload_n 2, 1) := by decide +kernel
theorem d_Md_allCodewords_44 : decode prog_14_method_8_code 44 = .ok (.istore_n 2, 1) := by decide +kernel
theorem d_Md_allCodewords_45 : decode prog_14_method_8_code 45 = .ok (.iload_n 0, 1) := by decide +kernel
theorem d_Md_allCodewords_46 : decode prog_14_method_8_code 46 = .ok (.bipush 6, 2) := by decide +kernel
theorem d_Md_allCodewords_48 : decode prog_14_method_8_code 48 = .ok (.if_icmp .le 10, 3) := by decide +kernel
theorem d_Md_allCodewords_51 : decode prog_14_method_8_code 51 = .ok (.iload_n 2, 1) := by decide +kernel
theorem d_Md_allCodewords_52 : decode prog_14_method_8_code 52 = .ok (.bipush 36, 2) := by decide +kernel
theorem d_Md_allCodewords_54 : decode prog_14_method_8_code 54 = .ok (.isub, 1) := by decide +kernel
theorem d_Md_allCodewords_55 : decode prog_14_method_8_code 55 = .ok (.goto 4, 3) := by decide +kernel
theorem d_Md_allCodewords_58 : decode prog_14_method_8_code 58 = .ok (.iload_n 2, 1) := by decide +kernel
theorem d_Md_allCodewords_59 : decode prog_14_method_8_code 59 = .ok (.bipush 8, 2) := by decide +kernel
theorem d_Md_allCodewords_61 : decode prog_14_method_8_code 61 = .ok (.idiv, 1) := by decide +kernel
theorem d_Md_allCodewords_62 : decode prog_14_method_8_code 62 = .ok (.ireturn, 1) := by decide +kernel
theorem d_Md_checkOf_0 : decode prog_14_method_9_code 0 = .ok (.aload_n 0, 1) := by decide +kernel
theorem d_Md_checkOf_1 : decode prog_14_method_9_code 1 = .ok (.getfield 7, 3) := by decide +kernel
theorem d_Md_checkOf_4 : decode prog_14_method_9_code 4 = .ok (.bipush 40, 2) := by decide +kernel
theorem d_Md_checkOf_6 : decode prog_14_method_9_code 6 = .ok (.iload_n 2, 1) := by decide +kernel
theorem d_Md_checkOf_7 : decode prog_14_method_9_code 7 = .ok (.imul, 1) := by decide +kernel
theorem d_Md_checkOf_8 : decode prog_14_method_9_code 8 = .ok (.iload_n 1, 1) := by decide +kernel
theorem d_Md_checkOf_9 : decode prog_14_method_9_code 9 = .ok (.iadd, 1) := by decide +kernel
theorem d_Md_checkOf_10 : decode prog_14_method_9_code 10 = .ok (.iconst 1, 1) := by decide +kernel
theorem d_Md_checkOf_11 : decode prog_14_method_9_code 11 = .ok (.isub, 1) := by decide +kernel
theorem d_Md_checkOf_12 : decode prog_14_method_9_code 12 = .ok (.iaload, 1) := by decide +kernel
theorem d_Md_checkOf_13 : decode prog_14_method_9_code 13 = .ok (.ireturn, 1) := by decide +kernel
theorem d_Md_blocksOf_0 : decode prog_14_method_10_code 0 = .ok (.aload_n 0, 1) := by decide +kernel
theorem d_Md_blocksOf_1 : decode prog_14_method_10_code 1 = .ok (.getfield 13, 3) := by decide +kernel
theorem d_Md_blocksOf_4 : decode prog_14_method_10_code 4 = .ok (.bipush 40, 2) := by decide +kernel
theorem d_Md_blocksOf_6 : decode prog_14_method_10_code 6 = .ok (.iload_n 2, 1) := by decide +kernel
theorem d_Md_blocksOf_7 : decode prog_14_method_10_code 7 = .ok (.imul, 1) := by decide +kernel
theorem d_Md_blocksOf_8 : decode prog_14_method_10_code 8 = .ok (.iload_n 1, 1) := by decide +kernel
theorem d_Md_blocksOf_9 : decode prog_14_method_10_code 9 = .ok (.iadd, 1) := by decide +kernel
theorem d_Md_blocksOf_10 : decode prog_14_method_10_code 10 = .ok (.iconst 1, 1) := by decide +kernel
theorem d_Md_blocksOf_11 : decode prog_14_method_10_code 11 = .ok (.isub, 1) := by decide +kernel
theorem d_Md_blocksOf_12 : decode prog_14_method_10_code 12 = .ok (.iaload, 1) := by decide +kernel
theorem d_Md_blocksOf_13 : decode prog_14_method_10_code 13 = .ok (.ireturn, 1) := by decide +kernel
theorem d_Md_layAll_0 : decode prog_14_method_25_code 0 = .ok (.iconst 0, 1) := by decide +kernel
theorem d_Md_layAll_1 : decode prog_14_method_25_code 1 = .ok (.istore_n 3, 1) := by decide +kernel
theorem d_Md_layAll_2 : decode prog_14_method_25_code 2 = .ok (.iload_n 3, 1) := by decide +kernel
theorem d_Md_layAll_3 : decode prog_14_method_25_code 3 = .ok (.aload_n 0, 1) := by decide +kernel
theorem d_Md_layAll_4 : decode prog_14_method_25_code 4 = .ok (.getfield 40, 3) := by decide +kernel
theorem d_Md_layAll_7 : decode prog_14_method_25_code 7 = .ok (.arraylength, 1) := by decide +kernel
theorem d_Md_layAll_8 : decode prog_14_method_25_code 8 = .ok (.if_icmp .ge 16, 3) := by decide +kernel
theorem d_Md_layAll_11 : decode prog_14_method_25_code 11 = .ok (.aload_n 0, 1) := by decide +kernel
theorem d_Md_layAll_12 : decode prog_14_method_25_code 12 = .ok (.getfield 40, 3) := by decide +kernel
theorem d_Md_layAll_15 : decode prog_14_method_25_code 15 = .ok (.iload_n 3, 1) := by decide +kernel
theorem d_Md_layAll_16 : decode prog_14_method_25_code 16 = .ok (.iconst 0, 1) := by decide +kernel
theorem d_Md_layAll_17 : decode prog_14_method_25_code 17 = .ok (.iastore, 1) := by decide +kernel
theorem d_Md_layAll_18 : decode prog_14_method_25_code 18 = .ok (.iinc 3 1, 3) := by decide +kernel
theorem d_Md_layAll_21 : decode prog_14_method_25_code 21 = .ok (.goto (-19), 3) := by decide +kernel
theorem d_Md_layAll_24 : decode prog_14_method_25_code 24 = .ok (.aload_n 0, 1) := by decide +kernel
theorem d_Md_layAll_25 : decode prog_14_method_25_code 25 = .ok (.iconst 0, 1) := by decide +kernel
theorem d_Md_layAll_26 : decode prog_14_method_25_code 26 = .ok (.putfield 124, 3) := by decide +kernel
theorem d_Md_layAll_29 : decode prog_14_method_25_code 29 = .ok (.aload_n 0, 1) := by decide +kernel
theorem d_Md_layAll_30 : decode prog_14_method_25_code 30 = .ok (.iconst 0, 1) := by decide +kernel
theorem d_Md_layAll_31 : decode prog_14_method_25_code 31 = .ok (.putfield 127, 3) := by decide +kernel
theorem d_Md_layAll_34 : decode prog_14_method_25_code 34 = .ok (.iconst 0, 1) := by decide +kernel
theorem d_Md_layAll_35 : decode prog_14_method_25_code 35 = .ok (.istore_n 3, 1) := by decide +kernel
theorem d_Md_layAll_36 : decode prog_14_method_25_code 36 = .ok (.iload_n 3, 1) := by decide +kernel
theorem d_Md_layAll_37 : decode prog_14_method_25_code 37 = .ok (.aload_n 0, 1) := by decide +kernel
theorem d_Md_layAll_38 : decode prog_14_method_25_code 38 = .ok (.getfield 77, 3) := by decide +kernel
theorem d_Md_layAll_41 : decode prog_14_method_25_code 41 = .ok (.if_icmp .ge 56, 3) := by decide +kernel
theorem d_Md_layAll_44 : decode prog_14_method_25_code 44 = .ok (.iload_n 3, 1) := by decide +kernel
theorem d_Md_layAll_45 : decode prog_14_method_25_code 45 = .ok (.iconst 1, 1) := by decide +kernel
theorem d_Md_layAll_46 : decode prog_14_method_25_code 46 = .ok (.iadd, 1) := by decide +kernel
theorem d_Md_layAll_47 : decode prog_14_method_25_code 47 = .ok (.istore 4, 2) := by decide +kernel
theorem d_Md_layAll_49 : decode prog_14_method_25_code 49 = .ok (.iload 4, 2) := by decide +kernel
theorem d_Md_layAll_51 : decode prog_14_method_25_code 51 = .ok (.aload_n 0, 1) := by decide +kernel
theorem d_Md_layAll_52 : decode prog_14_method_25_code 52 = .ok (.getfield 77, 3) := by decide +kernel
theorem d_Md_layAll_55 : decode prog_14_method_25_code 55 = .ok (.if_icmp .ge 25, 3) := by decide +kernel
theorem d_Md_layAll_58 : decode prog_14_method_25_code 58 = .ok (.aload_n 0, 1) := by decide +kernel
theorem d_Md_layAll_59 : decode prog_14_method_25_code 59 = .ok (.getfield 34, 3) := by decide +kernel
theorem d_Md_layAll_62 : decode prog_14_method_25_code 62 = .ok (.iload 4, 2) := by decide +kernel
theorem d_Md_layAll_64 : decode prog_14_method_25_code 64 = .ok (.iaload, 1) := by decide +kernel
theorem d_Md_layAll_65 : decode prog_14_method_25_code 65 = .ok (.aload_n 0, 1) := by decide +kernel
theorem d_Md_layAll_66 : decode prog_14_method_25_code 66 = .ok (.getfield 34, 3) := by decide +kernel
theorem d_Md_layAll_69 : decode prog_14_method_25_code 69 = .ok (.iload_n 3, 1) := by decide +kernel
theorem d_Md_layAll_70 : decode prog_14_method_25_code 70 = .ok (.iaload, 1) := by decide +kernel
theorem d_Md_layAll_71 : decode prog_14_method_25_code 71 = .ok (.if_icmp .ne 9, 3) := by decide +kernel
theorem d_Md_layAll_74 : decode prog_14_method_25_code 74 = .ok (.iinc 4 1, 3) := by decide +kernel
theorem d_Md_layAll_77 : decode prog_14_method_25_code 77 = .ok (.goto (-28), 3) := by decide +kernel
theorem d_Md_layAll_80 : decode prog_14_method_25_code 80 = .ok (.aload_n 0, 1) := by decide +kernel
theorem d_Md_layAll_81 : decode prog_14_method_25_code 81 = .ok (.iload_n 3, 1) := by decide +kernel
theorem d_Md_layAll_82 : decode prog_14_method_25_code 82 = .ok (.iload 4, 2) := by decide +kernel
theorem d_Md_layAll_84 : decode prog_14_method_25_code 84 = .ok (.iload_n 1, 1) := by decide +kernel
theorem d_Md_layAll_85 : decode prog_14_method_25_code 85 = .ok (.invokestatic 134, 3) := by decide +kernel
theorem d_Md_layAll_88 : decode prog_14_method_25_code 88 = .ok (.invokevirtual 137, 3) := by decide +kernel
theorem d_Md_layAll_91 : decode prog_14_method_25_code 91 = .ok (.iload 4, 2) := by decide +kernel
theorem d_Md_layAll_93 : decode prog_14_method_25_code 93 = .ok (.istore_n 3, 1) := by decide +kernel
theorem d_Md_layAll_94 : decode prog_14_method_25_code 94 = .ok (.goto (-58), 3) := by decide +kernel
theorem d_Md_layAll_97 : decode prog_14_method_25_code 97 = .ok (.bipush 8, 2) := by decide +kernel
theorem d_Md_layAll_99 : decode prog_14_method_25_code 99 = .ok (.aload_n 0, 1) := by decide +kernel
theorem d_Md_layAll_100 : decode prog_14_method_25_code 100 = .ok (.iload_n 1, 1) := by decide +kernel
theorem d_Md_layAll_101 : decode prog_14_method_25_code 101 = .ok (.iload_n 2, 1) := by decide +kernel
theorem d_Md_layAll_102 : decode prog_14_method_25_code 102 = .ok (.invokevirtual 141, 3) := by decide +kernel
theorem d_Md_layAll_105 : decode prog_14_method_25_code 105 = .ok (.imul, 1) := by decide +kernel
theorem d_Md_layAll_106 : decode prog_14_method_25_code 106 = .ok (.istore 4, 2) := by decide +kernel
theorem d_Md_layAll_108 : decode prog_14_method_25_code 108 = .ok (.aload_n 0, 1) := by decide +kernel
theorem d_Md_layAll_109 : decode prog_14_method_25_code 109 = .ok (.iconst 0, 1) := by decide +kernel
theorem d_Md_layAll_110 : decode prog_14_method_25_code 110 = .ok (.iload 4, 2) := by decide +kernel
theorem d_Md_layAll_112 : decode prog_14_method_25_code 112 = .ok (.aload_n 0, 1) := by decide +kernel
theorem d_Md_layAll_113 : decode prog_14_method_25_code 113 = .ok (.getfield 124, 3) := by decide +kernel
theorem d_Md_layAll_116 : decode prog_14_method_25_code 116 = .ok (.isub, 1) := by decide +kernel
theorem d_Md_layAll_117 : decode prog_14_method_25_code 117 = .ok (.iconst 4, 1) := by decide +kernel
theorem d_Md_layAll_118 : decode prog_14_method_25_code 118 = .ok (.if_icmp .ge 13, 3) := by decide +kernel
theorem d_Md_layAll_121 : decode prog_14_method_25_code 121 = .ok (.iload 4, 2) := by decide +kernel
theorem d_Md_layAll_123 : decode prog_14_method_25_code 123 = .ok (.aload_n 0, 1) := by decide +kernel
theorem d_Md_layAll_124 : decode prog_14_method_25_code 124 = .ok (.getfield 124, 3) := by decide +kernel
theorem d_Md_layAll_127 : decode prog_14_method_25_code 127 = .ok (.isub, 1) := by decide +kernel
theorem d_Md_layAll_128 : decode prog_14_method_25_code 128 = .ok (.goto 4, 3) := by decide +kernel
theorem d_Md_layAll_131 : decode prog_14_method_25_code 131 = .ok (.iconst 4, 1) := by decide +kernel
theorem d_Md_layAll_132 : decode prog_14_method_25_code 132 = .ok (.invokevirtual 130, 3) := by decide +kernel
theorem d_Md_layAll_135 : decode prog_14_method_25_code 135 = .ok (.aload_n 0, 1) := by decide +kernel
theorem d_Md_layAll_136 : decode prog_14_method_25_code 136 = .ok (.getfield 124, 3) := by decide +kernel
theorem d_Md_layAll_139 : decode prog_14_method_25_code 139 = .ok (.bipush 8, 2) := by decide +kernel
theorem d_Md_layAll_141 : decode prog_14_method_25_code 141 = .ok (.irem, 1) := by decide +kernel
theorem d_Md_layAll_142 : decode prog_14_method_25_code 142 = .ok (.ifCond .eq 16, 3) := by decide +kernel
theorem d_Md_layAll_145 : decode prog_14_method_25_code 145 = .ok (.aload_n 0, 1) := by decide +kernel
theorem d_Md_layAll_146 : decode prog_14_method_25_code 146 = .ok (.dup, 1) := by decide +kernel
theorem d_Md_layAll_147 : decode prog_14_method_25_code 147 = .ok (.getfield 124, 3) := by decide +kernel
theorem d_Md_layAll_150 : decode prog_14_method_25_code 150 = .ok (.iconst 1, 1) := by decide +kernel
theorem d_Md_layAll_151 : decode prog_14_method_25_code 151 = .ok (.iadd, 1) := by decide +kernel
theorem d_Md_layAll_152 : decode prog_14_method_25_code 152 = .ok (.putfield 124, 3) := by decide +kernel
theorem d_Md_layAll_155 : decode prog_14_method_25_code 155 = .ok (.goto (-20), 3) := by decide +kernel
theorem d_Md_layAll_158 : decode prog_14_method_25_code 158 = .ok (.iconst 1, 1) := by decide +kernel
theorem d_Md_layAll_159 : decode prog_14_method_25_code 159 = .ok (.istore 5, 2) := by decide +kernel
theorem d_Md_layAll_161 : decode prog_14_method_25_code 161 = .ok (.aload_n 0, 1) := by decide +kernel
theorem d_Md_layAll_162 : decode prog_14_method_25_code 162 = .ok (.getfield 124, 3) := by decide +kernel
theorem d_Md_layAll_165 : decode prog_14_method_25_code 165 = .ok (.iload 4, 2) := by decide +kernel
theorem d_Md_layAll_167 : decode prog_14_method_25_code 167 = .ok (.if_icmp .ge 37, 3) := by decide +kernel
theorem d_Md_layAll_170 : decode prog_14_method_25_code 170 = .ok (.aload_n 0, 1) := by decide +kernel
theorem d_Md_layAll_171 : decode prog_14_method_25_code 171 = .ok (.iload 5, 2) := by decide +kernel
theorem d_Md_layAll_173 : decode prog_14_method_25_code 173 = .ok (.ifCond .eq 9, 3) := by decide +kernel
theorem d_Md_layAll_176 : decode prog_14_method_25_code 176 = .ok (.sipush 236, 3) := by decide +kernel
theorem d_Md_layAll_179 : decode prog_14_method_25_code 179 = .ok (.goto 5, 3) := by decide +kernel
theorem d_Md_layAll_182 : decode prog_14_method_25_code 182 = .ok (.bipush 17, 2) := by decide +kernel
theorem d_Md_layAll_184 : decode prog_14_method_25_code 184 = .ok (.bipush 8, 2) := by decide +kernel
theorem d_Md_layAll_186 : decode prog_14_method_25_code 186 = .ok (.invokevirtual 130, 3) := by decide +kernel
theorem d_Md_layAll_189 : decode prog_14_method_25_code 189 = .ok (.iload 5, 2) := by decide +kernel
theorem d_Md_layAll_191 : decode prog_14_method_25_code 191 = .ok (.ifCond .ne 7, 3) := by decide +kernel
theorem d_Md_layAll_194 : decode prog_14_method_25_code 194 = .ok (.iconst 1, 1) := by decide +kernel
theorem d_Md_layAll_195 : decode prog_14_method_25_code 195 = .ok (.goto 4, 3) := by decide +kernel
theorem d_Md_layAll_198 : decode prog_14_method_25_code 198 = .ok (.iconst 0, 1) := by decide +kernel
theorem d_Md_layAll_199 : decode prog_14_method_25_code 199 = .ok (.istore 5, 2) := by decide +kernel
theorem d_Md_layAll_201 : decode prog_14_method_25_code 201 = .ok (.goto (-40), 3) := by decide +kernel
theorem d_Md_layAll_204 : decode prog_14_method_25_code 204 = .ok (.return_, 1) := by decide +kernel
theorem d_Md_laySegment_0 : decode prog_14_method_24_code 0 = .ok (.aload_n 0, 1) := by decide +kernel
theorem d_Md_laySegment_1 : decode prog_14_method_24_code 1 = .ok (.getfield 34, 3) := by decide +kernel
theorem d_Md_laySegment_4 : decode prog_14_method_24_code 4 = .ok (.iload_n 1, 1) := by decide +kernel
theorem d_Md_laySegment_5 : decode prog_14_method_24_code 5 = .ok (.iaload, 1) := by decide +kernel
theorem d_Md_laySegment_6 : decode prog_14_method_24_code 6 = .ok (.istore 4, 2) := by decide +kernel
theorem d_Md_laySegment_8 : decode prog_14_method_24_code 8 = .ok (.aload_n 0, 1) := by decide +kernel
theorem d_Md_laySegment_9 : decode prog_14_method_24_code 9 = .ok (.getfield 28, 3) := by decide +kernel
theorem d_Md_laySegment_12 : decode prog_14_method_24_code 12 = .ok (.aload_n 0, 1) := by decide +kernel
theorem d_Md_laySegment_13 : decode prog_14_method_24_code 13 = .ok (.getfield 127, 3) := by decide +kernel
theorem d_Md_laySegment_16 : decode prog_14_method_24_code 16 = .ok (.iload 4, 2) := by decide +kernel
theorem d_Md_laySegment_18 : decode prog_14_method_24_code 18 = .ok (.iastore, 1) := by decide +kernel
theorem d_Md_laySegment_19 : decode prog_14_method_24_code 19 = .ok (.aload_n 0, 1) := by decide +kernel
theorem d_Md_laySegment_20 : decode prog_14_method_24_code 20 = .ok (.getfield 31, 3) := by decide +kernel
theorem d_Md_laySegment_23 : decode prog_14_method_24_code 23 = .ok (.aload_n 0, 1) := by decide +kernel
theorem d_Md_laySegment_24 : decode prog_14_method_24_code 24 = .ok (.getfield 127, 3) := by decide +kernel
theorem d_Md_laySegment_27 : decode prog_14_method_24_code 27 = .ok (.iload_n 2, 1) := by decide +kernel
theorem d_Md_laySegment_28 : decode prog_14_method_24_code 28 = .ok (.iload_n 1, 1) := by decide +kernel
theorem d_Md_laySegment_29 : decode prog_14_method_24_code 29 = .ok (.isub, 1) := by decide +kernel
theorem d_Md_laySegment_30 : decode prog_14_method_24_code 30 = .ok (.iastore, 1) := by decide +kernel
theorem d_Md_laySegment_31 : decode prog_14_method_24_code 31 = .ok (.aload_n 0, 1) := by decide +kernel
theorem d_Md_laySegment_32 : decode prog_14_method_24_code 32 = .ok (.dup, 1) := by decide +kernel
theorem d_Md_laySegment_33 : decode prog_14_method_24_code 33 = .ok (.getfield 127, 3) := by decide +kernel
theorem d_Md_laySegment_36 : decode prog_14_method_24_code 36 = .ok (.iconst 1, 1) := by decide +kernel
theorem d_Md_laySegment_37 : decode prog_14_method_24_code 37 = .ok (.iadd, 1) := by decide +kernel
theorem d_Md_laySegment_38 : decode prog_14_method_24_code 38 = .ok (.putfield 127, 3) := by decide +kernel
theorem d_Md_laySegment_41 : decode prog_14_method_24_code 41 = .ok (.aload_n 0, 1) := by decide +kernel
theorem d_Md_laySegment_42 : decode prog_14_method_24_code 42 = .ok (.iconst 1, 1) := by decide +kernel
theorem d_Md_laySegment_43 : decode prog_14_method_24_code 43 = .ok (.iload 4, 2) := by decide +kernel
theorem d_Md_laySegment_45 : decode prog_14_method_24_code 45 = .ok (.ishl, 1) := by decide +kernel
theorem d_Md_laySegment_46 : decode prog_14_method_24_code 46 = .ok (.iconst 4, 1) := by decide +kernel
theorem d_Md_laySegment_47 : decode prog_14_method_24_code 47 = .ok (.invokevirtual 130, 3) := by decide +kernel
theorem d_Md_laySegment_50 : decode prog_14_method_24_code 50 = .ok (.aload_n 0, 1) := by decide +kernel
theorem d_Md_laySegment_51 : decode prog_14_method_24_code 51 = .ok (.iload_n 2, 1) := by decide +kernel
theorem d_Md_laySegment_52 : decode prog_14_method_24_code 52 = .ok (.iload_n 1, 1) := by decide +kernel
theorem d_Md_laySegment_53 : decode prog_14_method_24_code 53 = .ok (.isub, 1) := by decide +kernel
theorem d_Md_laySegment_54 : decode prog_14_method_24_code 54 = .ok (.iload 4, 2) := by decide +kernel
theorem d_Md_laySegment_56 : decode prog_14_method_24_code 56 = .ok (.iload_n 3, 1) := by decide +kernel
theorem d_Md_laySegment_57 : decode prog_14_method_24_code 57 = .ok (.invokestatic 99, 3) := by decide +kernel
theorem d_Md_laySegment_60 : decode prog_14_method_24_code 60 = .ok (.invokevirtual 130, 3) := by decide +kernel
theorem d_Md_laySegment_63 : decode prog_14_method_24_code 63 = .ok (.iload_n 1, 1) := by decide +kernel
theorem d_Md_laySegment_64 : decode prog_14_method_24_code 64 = .ok (.istore 5, 2) := by decide +kernel
theorem d_Md_laySegment_66 : decode prog_14_method_24_code 66 = .ok (.iload 5, 2) := by decide +kernel
theorem d_Md_laySegment_68 : decode prog_14_method_24_code 68 = .ok (.iload_n 2, 1) := by decide +kernel
theorem d_Md_laySegment_69 : decode prog_14_method_24_code 69 = .ok (.if_icmp .ge 178, 3) := by decide +kernel
theorem d_Md_laySegment_72 : decode prog_14_method_24_code 72 = .ok (.iload 4, 2) := by decide +kernel
theorem d_Md_laySegment_74 : decode prog_14_method_24_code 74 = .ok (.ifCond .ne 7, 3) := by decide +kernel
theorem d_Md_laySegment_77 : decode prog_14_method_24_code 77 = .ok (.iconst 3, 1) := by decide +kernel
theorem d_Md_laySegment_78 : decode prog_14_method_24_code 78 = .ok (.goto 14, 3) := by decide +kernel
theorem d_Md_laySegment_81 : decode prog_14_method_24_code 81 = .ok (.iload 4, 2) := by decide +kernel
theorem d_Md_laySegment_83 : decode prog_14_method_24_code 83 = .ok (.iconst 1, 1) := by decide +kernel
theorem d_Md_laySegment_84 : decode prog_14_method_24_code 84 = .ok (.if_icmp .ne 7, 3) := by decide +kernel
theorem d_Md_laySegment_87 : decode prog_14_method_24_code 87 = .ok (.iconst 2, 1) := by decide +kernel
theorem d_Md_laySegment_88 : decode prog_14_method_24_code 88 = .ok (.goto 4, 3) := by decide +kernel
theorem d_Md_laySegment_91 : decode prog_14_method_24_code 91 = .ok (.iconst 1, 1) := by decide +kernel
theorem d_Md_laySegment_92 : decode prog_14_method_24_code 92 = .ok (.istore 6, 2) := by decide +kernel
theorem d_Md_laySegment_94 : decode prog_14_method_24_code 94 = .ok (.iload 6, 2) := by decide +kernel
theorem d_Md_laySegment_96 : decode prog_14_method_24_code 96 = .ok (.iload_n 2, 1) := by decide +kernel
theorem d_Md_laySegment_97 : decode prog_14_method_24_code 97 = .ok (.iload 5, 2) := by decide +kernel
theorem d_Md_laySegment_99 : decode prog_14_method_24_code 99 = .ok (.isub, 1) := by decide +kernel
theorem d_Md_laySegment_100 : decode prog_14_method_24_code 100 = .ok (.if_icmp .le 10, 3) := by decide +kernel
theorem d_Md_laySegment_103 : decode prog_14_method_24_code 103 = .ok (.iload_n 2, 1) := by decide +kernel
theorem d_Md_laySegment_104 : decode prog_14_method_24_code 104 = .ok (.iload 5, 2) := by decide +kernel
theorem d_Md_laySegment_106 : decode prog_14_method_24_code 106 = .ok (.isub, 1) := by decide +kernel
theorem d_Md_laySegment_107 : decode prog_14_method_24_code 107 = .ok (.goto 5, 3) := by decide +kernel
theorem d_Md_laySegment_110 : decode prog_14_method_24_code 110 = .ok (.iload 6, 2) := by decide +kernel
theorem d_Md_laySegment_112 : decode prog_14_method_24_code 112 = .ok (.istore 6, 2) := by decide +kernel
theorem d_Md_laySegment_114 : decode prog_14_method_24_code 114 = .ok (.iconst 0, 1) := by decide +kernel
theorem d_Md_laySegment_115 : decode prog_14_method_24_code 115 = .ok (.istore 7, 2) := by decide +kernel
theorem d_Md_laySegment_117 : decode prog_14_method_24_code 117 = .ok (.iconst 0, 1) := by decide +kernel
theorem d_Md_laySegment_118 : decode prog_14_method_24_code 118 = .ok (.istore 8, 2) := by decide +kernel
theorem d_Md_laySegment_120 : decode prog_14_method_24_code 120 = .ok (.iload 8, 2) := by decide +kernel
theorem d_Md_laySegment_122 : decode prog_14_method_24_code 122 = .ok (.iload 6, 2) := by decide +kernel
theorem d_Md_laySegment_124 : decode prog_14_method_24_code 124 = .ok (.if_icmp .ge 76, 3) := by decide +kernel
theorem d_Md_laySegment_127 : decode prog_14_method_24_code 127 = .ok (.iload 4, 2) := by decide +kernel
theorem d_Md_laySegment_129 : decode prog_14_method_24_code 129 = .ok (.ifCond .ne 25, 3) := by decide +kernel
theorem d_Md_laySegment_132 : decode prog_14_method_24_code 132 = .ok (.bipush 10, 2) := by decide +kernel
theorem d_Md_laySegment_134 : decode prog_14_method_24_code 134 = .ok (.iload 7, 2) := by decide +kernel
theorem d_Md_laySegment_136 : decode prog_14_method_24_code 136 = .ok (.imul, 1) := by decide +kernel
theorem d_Md_laySegment_137 : decode prog_14_method_24_code 137 = .ok (.aload_n 0, 1) := by decide +kernel
theorem d_Md_laySegment_138 : decode prog_14_method_24_code 138 = .ok (.getfield 16, 3) := by decide +kernel
theorem d_Md_laySegment_141 : decode prog_14_method_24_code 141 = .ok (.iload 5, 2) := by decide +kernel
theorem d_Md_laySegment_143 : decode prog_14_method_24_code 143 = .ok (.iload 8, 2) := by decide +kernel
theorem d_Md_laySegment_145 : decode prog_14_method_24_code 145 = .ok (.iadd, 1) := by decide +kernel
theorem d_Md_laySegment_146 : decode prog_14_method_24_code 146 = .ok (.iaload, 1) := by decide +kernel
theorem d_Md_laySegment_147 : decode prog_14_method_24_code 147 = .ok (.iadd, 1) := by decide +kernel
theorem d_Md_laySegment_148 : decode prog_14_method_24_code 148 = .ok (.bipush 48, 2) := by decide +kernel
theorem d_Md_laySegment_150 : decode prog_14_method_24_code 150 = .ok (.isub, 1) := by decide +kernel
theorem d_Md_laySegment_151 : decode prog_14_method_24_code 151 = .ok (.goto 41, 3) := by decide +kernel
theorem d_Md_laySegment_154 : decode prog_14_method_24_code 154 = .ok (.iload 4, 2) := by decide +kernel
theorem d_Md_laySegment_156 : decode prog_14_method_24_code 156 = .ok (.iconst 1, 1) := by decide +kernel
theorem d_Md_laySegment_157 : decode prog_14_method_24_code 157 = .ok (.if_icmp .ne 25, 3) := by decide +kernel
theorem d_Md_laySegment_160 : decode prog_14_method_24_code 160 = .ok (.bipush 45, 2) := by decide +kernel
theorem d_Md_laySegment_162 : decode prog_14_method_24_code 162 = .ok (.iload 7, 2) := by decide +kernel
theorem d_Md_laySegment_164 : decode prog_14_method_24_code 164 = .ok (.imul, 1) := by decide +kernel
theorem d_Md_laySegment_165 : decode prog_14_method_24_code 165 = .ok (.aload_n 0, 1) := by decide +kernel
theorem d_Md_laySegment_166 : decode prog_14_method_24_code 166 = .ok (.getfield 16, 3) := by decide +kernel
theorem d_Md_laySegment_169 : decode prog_14_method_24_code 169 = .ok (.iload 5, 2) := by decide +kernel
theorem d_Md_laySegment_171 : decode prog_14_method_24_code 171 = .ok (.iload 8, 2) := by decide +kernel
theorem d_Md_laySegment_173 : decode prog_14_method_24_code 173 = .ok (.iadd, 1) := by decide +kernel
theorem d_Md_laySegment_174 : decode prog_14_method_24_code 174 = .ok (.iaload, 1) := by decide +kernel
theorem d_Md_laySegment_175 : decode prog_14_method_24_code 175 = .ok (.invokestatic 93, 3) := by decide +kernel
theorem d_Md_laySegment_178 : decode prog_14_method_24_code 178 = .ok (.iadd, 1) := by decide +kernel
theorem d_Md_laySegment_179 : decode prog_14_method_24_code 179 = .ok (.goto 13, 3) := by decide +kernel
theorem d_Md_laySegment_182 : decode prog_14_method_24_code 182 = .ok (.aload_n 0, 1) := by decide +kernel
theorem d_Md_laySegment_183 : decode prog_14_method_24_code 183 = .ok (.getfield 16, 3) := by decide +kernel
theorem d_Md_laySegment_186 : decode prog_14_method_24_code 186 = .ok (.iload 5, 2) := by decide +kernel
theorem d_Md_laySegment_188 : decode prog_14_method_24_code 188 = .ok (.iload 8, 2) := by decide +kernel
theorem d_Md_laySegment_190 : decode prog_14_method_24_code 190 = .ok (.iadd, 1) := by decide +kernel
theorem d_Md_laySegment_191 : decode prog_14_method_24_code 191 = .ok (.iaload, 1) := by decide +kernel
theorem d_Md_laySegment_192 : decode prog_14_method_24_code 192 = .ok (.istore 7, 2) := by decide +kernel
theorem d_Md_laySegment_194 : decode prog_14_method_24_code 194 = .ok (.iinc 8 1, 3) := by decide +kernel
theorem d_Md_laySegment_197 : decode prog_14_method_24_code 197 = .ok (.goto (-77), 3) := by decide +kernel
theorem d_Md_laySegment_200 : decode prog_14_method_24_code 200 = .ok (.aload_n 0, 1) := by decide +kernel
theorem d_Md_laySegment_201 : decode prog_14_method_24_code 201 = .ok (.iload 7, 2) := by decide +kernel
theorem d_Md_laySegment_203 : decode prog_14_method_24_code 203 = .ok (.iload 4, 2) := by decide +kernel
theorem d_Md_laySegment_205 : decode prog_14_method_24_code 205 = .ok (.ifCond .ne 12, 3) := by decide +kernel
theorem d_Md_laySegment_208 : decode prog_14_method_24_code 208 = .ok (.iconst 3, 1) := by decide +kernel
theorem d_Md_laySegment_209 : decode prog_14_method_24_code 209 = .ok (.iload 6, 2) := by decide +kernel
theorem d_Md_laySegment_211 : decode prog_14_method_24_code 211 = .ok (.imul, 1) := by decide +kernel
theorem d_Md_laySegment_212 : decode prog_14_method_24_code 212 = .ok (.iconst 1, 1) := by decide +kernel
theorem d_Md_laySegment_213 : decode prog_14_method_24_code 213 = .ok (.iadd, 1) := by decide +kernel
theorem d_Md_laySegment_214 : decode prog_14_method_24_code 214 = .ok (.goto 20, 3) := by decide +kernel
theorem d_Md_laySegment_217 : decode prog_14_method_24_code 217 = .ok (.iload 4, 2) := by decide +kernel
theorem d_Md_laySegment_219 : decode prog_14_method_24_code 219 = .ok (.iconst 1, 1) := by decide +kernel
theorem d_Md_laySegment_220 : decode prog_14_method_24_code 220 = .ok (.if_icmp .ne 12, 3) := by decide +kernel
theorem d_Md_laySegment_223 : decode prog_14_method_24_code 223 = .ok (.iconst 5, 1) := by decide +kernel
theorem d_Md_laySegment_224 : decode prog_14_method_24_code 224 = .ok (.iload 6, 2) := by decide +kernel
theorem d_Md_laySegment_226 : decode prog_14_method_24_code 226 = .ok (.imul, 1) := by decide +kernel
theorem d_Md_laySegment_227 : decode prog_14_method_24_code 227 = .ok (.iconst 1, 1) := by decide +kernel
theorem d_Md_laySegment_228 : decode prog_14_method_24_code 228 = .ok (.iadd, 1) := by decide +kernel
theorem d_Md_laySegment_229 : decode prog_14_method_24_code 229 = .ok (.goto 5, 3) := by decide +kernel
theorem d_Md_laySegment_232 : decode prog_14_method_24_code 232 = .ok (.bipush 8, 2) := by decide +kernel
theorem d_Md_laySegment_234 : decode prog_14_method_24_code 234 = .ok (.invokevirtual 130, 3) := by decide +kernel
theorem d_Md_laySegment_237 : decode prog_14_method_24_code 237 = .ok (.iload 5, 2) := by decide +kernel
theorem d_Md_laySegment_239 : decode prog_14_method_24_code 239 = .ok (.iload 6, 2) := by decide +kernel
theorem d_Md_laySegment_241 : decode prog_14_method_24_code 241 = .ok (.iadd, 1) := by decide +kernel
theorem d_Md_laySegment_242 : decode prog_14_method_24_code 242 = .ok (.istore 5, 2) := by decide +kernel
theorem d_Md_laySegment_244 : decode prog_14_method_24_code 244 = .ok (.goto (-178), 3) := by decide +kernel
theorem d_Md_laySegment_247 : decode prog_14_method_24_code 247 = .ok (.return_, 1) := by decide +kernel
theorem d_Md_lay_0 : decode prog_14_method_23_code 0 = .ok (.iload_n 2, 1) := by decide +kernel
theorem d_Md_lay_1 : decode prog_14_method_23_code 1 = .ok (.iconst 1, 1) := by decide +kernel
theorem d_Md_lay_2 : decode prog_14_method_23_code 2 = .ok (.isub, 1) := by decide +kernel
theorem d_Md_lay_3 : decode prog_14_method_23_code 3 = .ok (.istore_n 3, 1) := by decide +kernel
theorem d_Md_lay_4 : decode prog_14_method_23_code 4 = .ok (.iload_n 3, 1) := by decide +kernel
theorem d_Md_lay_5 : decode prog_14_method_23_code 5 = .ok (.ifCond .lt 64, 3) := by decide +kernel
theorem d_Md_lay_8 : decode prog_14_method_23_code 8 = .ok (.iload_n 1, 1) := by decide +kernel
theorem d_Md_lay_9 : decode prog_14_method_23_code 9 = .ok (.iload_n 3, 1) := by decide +kernel
theorem d_Md_lay_10 : decode prog_14_method_23_code 10 = .ok (.ishr, 1) := by decide +kernel
theorem d_Md_lay_11 : decode prog_14_method_23_code 11 = .ok (.iconst 1, 1) := by decide +kernel
theorem d_Md_lay_12 : decode prog_14_method_23_code 12 = .ok (.iand, 1) := by decide +kernel
theorem d_Md_lay_13 : decode prog_14_method_23_code 13 = .ok (.istore 4, 2) := by decide +kernel
theorem d_Md_lay_15 : decode prog_14_method_23_code 15 = .ok (.aload_n 0, 1) := by decide +kernel
theorem d_Md_lay_16 : decode prog_14_method_23_code 16 = .ok (.getfield 40, 3) := by decide +kernel
theorem d_Md_lay_19 : decode prog_14_method_23_code 19 = .ok (.aload_n 0, 1) := by decide +kernel
theorem d_Md_lay_20 : decode prog_14_method_23_code 20 = .ok (.getfield 124, 3) := by decide +kernel
theorem d_Md_lay_23 : decode prog_14_method_23_code 23 = .ok (.bipush 8, 2) := by decide +kernel
theorem d_Md_lay_25 : decode prog_14_method_23_code 25 = .ok (.idiv, 1) := by decide +kernel
theorem d_Md_lay_26 : decode prog_14_method_23_code 26 = .ok (.aload_n 0, 1) := by decide +kernel
theorem d_Md_lay_27 : decode prog_14_method_23_code 27 = .ok (.getfield 40, 3) := by decide +kernel
theorem d_Md_lay_30 : decode prog_14_method_23_code 30 = .ok (.aload_n 0, 1) := by decide +kernel
theorem d_Md_lay_31 : decode prog_14_method_23_code 31 = .ok (.getfield 124, 3) := by decide +kernel
theorem d_Md_lay_34 : decode prog_14_method_23_code 34 = .ok (.bipush 8, 2) := by decide +kernel
theorem d_Md_lay_36 : decode prog_14_method_23_code 36 = .ok (.idiv, 1) := by decide +kernel
theorem d_Md_lay_37 : decode prog_14_method_23_code 37 = .ok (.iaload, 1) := by decide +kernel
theorem d_Md_lay_38 : decode prog_14_method_23_code 38 = .ok (.iload 4, 2) := by decide +kernel
theorem d_Md_lay_40 : decode prog_14_method_23_code 40 = .ok (.bipush 7, 2) := by decide +kernel
theorem d_Md_lay_42 : decode prog_14_method_23_code 42 = .ok (.aload_n 0, 1) := by decide +kernel
theorem d_Md_lay_43 : decode prog_14_method_23_code 43 = .ok (.getfield 124, 3) := by decide +kernel
theorem d_Md_lay_46 : decode prog_14_method_23_code 46 = .ok (.bipush 8, 2) := by decide +kernel
theorem d_Md_lay_48 : decode prog_14_method_23_code 48 = .ok (.irem, 1) := by decide +kernel
theorem d_Md_lay_49 : decode prog_14_method_23_code 49 = .ok (.isub, 1) := by decide +kernel
theorem d_Md_lay_50 : decode prog_14_method_23_code 50 = .ok (.ishl, 1) := by decide +kernel
theorem d_Md_lay_51 : decode prog_14_method_23_code 51 = .ok (.ior, 1) := by decide +kernel
theorem d_Md_lay_52 : decode prog_14_method_23_code 52 = .ok (.iastore, 1) := by decide +kernel
theorem d_Md_lay_53 : decode prog_14_method_23_code 53 = .ok (.aload_n 0, 1) := by decide +kernel
theorem d_Md_lay_54 : decode prog_14_method_23_code 54 = .ok (.dup, 1) := by decide +kernel
theorem d_Md_lay_55 : decode prog_14_method_23_code 55 = .ok (.getfield 124, 3) := by decide +kernel
theorem d_Md_lay_58 : decode prog_14_method_23_code 58 = .ok (.iconst 1, 1) := by decide +kernel
theorem d_Md_lay_59 : decode prog_14_method_23_code 59 = .ok (.iadd, 1) := by decide +kernel
theorem d_Md_lay_60 : decode prog_14_method_23_code 60 = .ok (.putfield 124, 3) := by decide +kernel
theorem d_Md_lay_63 : decode prog_14_method_23_code 63 = .ok (.iinc 3 (-1), 3) := by decide +kernel
theorem d_Md_lay_66 : decode prog_14_method_23_code 66 = .ok (.goto (-62), 3) := by decide +kernel
theorem d_Md_lay_69 : decode prog_14_method_23_code 69 = .ok (.return_, 1) := by decide +kernel
theorem d_Md_check_0 : decode prog_14_method_32_code 0 = .ok (.aload_n 0, 1) := by decide +kernel
theorem d_Md_check_1 : decode prog_14_method_32_code 1 = .ok (.iload_n 1, 1) := by decide +kernel
theorem d_Md_check_2 : decode prog_14_method_32_code 2 = .ok (.iload_n 2, 1) := by decide +kernel
theorem d_Md_check_3 : decode prog_14_method_32_code 3 = .ok (.invokevirtual 86, 3) := by decide +kernel
theorem d_Md_check_6 : decode prog_14_method_32_code 6 = .ok (.istore_n 3, 1) := by decide +kernel
theorem d_Md_check_7 : decode prog_14_method_32_code 7 = .ok (.aload_n 0, 1) := by decide +kernel
theorem d_Md_check_8 : decode prog_14_method_32_code 8 = .ok (.iload_n 3, 1) := by decide +kernel
theorem d_Md_check_9 : decode prog_14_method_32_code 9 = .ok (.invokevirtual 153, 3) := by decide +kernel
theorem d_Md_check_12 : decode prog_14_method_32_code 12 = .ok (.iconst 0, 1) := by decide +kernel
theorem d_Md_check_13 : decode prog_14_method_32_code 13 = .ok (.istore 4, 2) := by decide +kernel
theorem d_Md_check_15 : decode prog_14_method_32_code 15 = .ok (.iload 4, 2) := by decide +kernel
theorem d_Md_check_17 : decode prog_14_method_32_code 17 = .ok (.aload_n 0, 1) := by decide +kernel
theorem d_Md_check_18 : decode prog_14_method_32_code 18 = .ok (.iload_n 1, 1) := by decide +kernel
theorem d_Md_check_19 : decode prog_14_method_32_code 19 = .ok (.iload_n 2, 1) := by decide +kernel
theorem d_Md_check_20 : decode prog_14_method_32_code 20 = .ok (.invokevirtual 90, 3) := by decide +kernel
theorem d_Md_check_23 : decode prog_14_method_32_code 23 = .ok (.if_icmp .ge 213, 3) := by decide +kernel
theorem d_Md_check_26 : decode prog_14_method_32_code 26 = .ok (.aload_n 0, 1) := by decide +kernel
theorem d_Md_check_27 : decode prog_14_method_32_code 27 = .ok (.iload_n 1, 1) := by decide +kernel
theorem d_Md_check_28 : decode prog_14_method_32_code 28 = .ok (.iload_n 2, 1) := by decide +kernel
theorem d_Md_check_29 : decode prog_14_method_32_code 29 = .ok (.iload 4, 2) := by decide +kernel
theorem d_Md_check_31 : decode prog_14_method_32_code 31 = .ok (.invokevirtual 150, 3) := by decide +kernel
theorem d_Md_check_34 : decode prog_14_method_32_code 34 = .ok (.istore 5, 2) := by decide +kernel
theorem d_Md_check_36 : decode prog_14_method_32_code 36 = .ok (.aload_n 0, 1) := by decide +kernel
theorem d_Md_check_37 : decode prog_14_method_32_code 37 = .ok (.iload_n 1, 1) := by decide +kernel
theorem d_Md_check_38 : decode prog_14_method_32_code 38 = .ok (.iload_n 2, 1) := by decide +kernel
theorem d_Md_check_39 : decode prog_14_method_32_code 39 = .ok (.iload 4, 2) := by decide +kernel
theorem d_Md_check_41 : decode prog_14_method_32_code 41 = .ok (.invokevirtual 157, 3) := by decide +kernel
theorem d_Md_check_44 : decode prog_14_method_32_code 44 = .ok (.istore 6, 2) := by decide +kernel
theorem d_Md_check_46 : decode prog_14_method_32_code 46 = .ok (.iconst 0, 1) := by decide +kernel
theorem d_Md_check_47 : decode prog_14_method_32_code 47 = .ok (.istore 7, 2) := by decide +kernel
theorem d_Md_check_49 : decode prog_14_method_32_code 49 = .ok (.iload 7, 2) := by decide +kernel
theorem d_Md_check_51 : decode prog_14_method_32_code 51 = .ok (.iload 5, 2) := by decide +kernel
theorem d_Md_check_53 : decode prog_14_method_32_code 53 = .ok (.iload_n 3, 1) := by decide +kernel
theorem d_Md_check_54 : decode prog_14_method_32_code 54 = .ok (.iadd, 1) := by decide +kernel
theorem d_Md_check_55 : decode prog_14_method_32_code 55 = .ok (.if_icmp .ge 37, 3) := by decide +kernel
theorem d_Md_check_58 : decode prog_14_method_32_code 58 = .ok (.aload_n 0, 1) := by decide +kernel
theorem d_Md_check_59 : decode prog_14_method_32_code 59 = .ok (.getfield 46, 3) := by decide +kernel
theorem d_Md_check_62 : decode prog_14_method_32_code 62 = .ok (.iload 7, 2) := by decide +kernel
theorem d_Md_check_64 : decode prog_14_method_32_code 64 = .ok (.iload 7, 2) := by decide +kernel
theorem d_Md_check_66 : decode prog_14_method_32_code 66 = .ok (.iload 5, 2) := by decide +kernel
theorem d_Md_check_68 : decode prog_14_method_32_code 68 = .ok (.if_icmp .ge 16, 3) := by decide +kernel
theorem d_Md_check_71 : decode prog_14_method_32_code 71 = .ok (.aload_n 0, 1) := by decide +kernel
theorem d_Md_check_72 : decode prog_14_method_32_code 72 = .ok (.getfield 40, 3) := by decide +kernel
theorem d_Md_check_75 : decode prog_14_method_32_code 75 = .ok (.iload 6, 2) := by decide +kernel
theorem d_Md_check_77 : decode prog_14_method_32_code 77 = .ok (.iload 7, 2) := by decide +kernel
theorem d_Md_check_79 : decode prog_14_method_32_code 79 = .ok (.iadd, 1) := by decide +kernel
theorem d_Md_check_80 : decode prog_14_method_32_code 80 = .ok (.iaload, 1) := by decide +kernel
theorem d_Md_check_81 : decode prog_14_method_32_code 81 = .ok (.goto 4, 3) := by decide +kernel
theorem d_Md_check_84 : decode prog_14_method_32_code 84 = .ok (.iconst 0, 1) := by decide +kernel
theorem d_Md_check_85 : decode prog_14_method_32_code 85 = .ok (.iastore, 1) := by decide +kernel
theorem d_Md_check_86 : decode prog_14_method_32_code 86 = .ok (.iinc 7 1, 3) := by decide +kernel
theorem d_Md_check_89 : decode prog_14_method_32_code 89 = .ok (.goto (-40), 3) := by decide +kernel
theorem d_Md_check_92 : decode prog_14_method_32_code 92 = .ok (.iconst 0, 1) := by decide +kernel
theorem d_Md_check_93 : decode prog_14_method_32_code 93 = .ok (.istore 7, 2) := by decide +kernel
theorem d_Md_check_95 : decode prog_14_method_32_code 95 = .ok (.iload 7, 2) := by decide +kernel
theorem d_Md_check_97 : decode prog_14_method_32_code 97 = .ok (.iload 5, 2) := by decide +kernel
theorem d_Md_check_99 : decode prog_14_method_32_code 99 = .ok (.if_icmp .ge 71, 3) := by decide +kernel
theorem d_Md_check_102 : decode prog_14_method_32_code 102 = .ok (.aload_n 0, 1) := by decide +kernel
theorem d_Md_check_103 : decode prog_14_method_32_code 103 = .ok (.getfield 46, 3) := by decide +kernel
theorem d_Md_check_106 : decode prog_14_method_32_code 106 = .ok (.iload 7, 2) := by decide +kernel
theorem d_Md_check_108 : decode prog_14_method_32_code 108 = .ok (.iaload, 1) := by decide +kernel
theorem d_Md_check_109 : decode prog_14_method_32_code 109 = .ok (.istore 8, 2) := by decide +kernel
theorem d_Md_check_111 : decode prog_14_method_32_code 111 = .ok (.iconst 0, 1) := by decide +kernel
theorem d_Md_check_112 : decode prog_14_method_32_code 112 = .ok (.istore 9, 2) := by decide +kernel
theorem d_Md_check_114 : decode prog_14_method_32_code 114 = .ok (.iload 9, 2) := by decide +kernel
theorem d_Md_check_116 : decode prog_14_method_32_code 116 = .ok (.iload_n 3, 1) := by decide +kernel
theorem d_Md_check_117 : decode prog_14_method_32_code 117 = .ok (.if_icmp .gt 47, 3) := by decide +kernel
theorem d_Md_check_120 : decode prog_14_method_32_code 120 = .ok (.iload 8, 2) := by decide +kernel
theorem d_Md_check_122 : decode prog_14_method_32_code 122 = .ok (.ifCond .eq 42, 3) := by decide +kernel
theorem d_Md_check_125 : decode prog_14_method_32_code 125 = .ok (.aload_n 0, 1) := by decide +kernel
theorem d_Md_check_126 : decode prog_14_method_32_code 126 = .ok (.getfield 46, 3) := by decide +kernel
theorem d_Md_check_129 : decode prog_14_method_32_code 129 = .ok (.iload 7, 2) := by decide +kernel
theorem d_Md_check_131 : decode prog_14_method_32_code 131 = .ok (.iload 9, 2) := by decide +kernel
theorem d_Md_check_133 : decode prog_14_method_32_code 133 = .ok (.iadd, 1) := by decide +kernel
theorem d_Md_check_134 : decode prog_14_method_32_code 134 = .ok (.aload_n 0, 1) := by decide +kernel
theorem d_Md_check_135 : decode prog_14_method_32_code 135 = .ok (.getfield 46, 3) := by decide +kernel
theorem d_Md_check_138 : decode prog_14_method_32_code 138 = .ok (.iload 7, 2) := by decide +kernel
theorem d_Md_check_140 : decode prog_14_method_32_code 140 = .ok (.iload 9, 2) := by decide +kernel
theorem d_Md_check_142 : decode prog_14_method_32_code 142 = .ok (.iadd, 1) := by decide +kernel
theorem d_Md_check_143 : decode prog_14_method_32_code 143 = .ok (.iaload, 1) := by decide +kernel
theorem d_Md_check_144 : decode prog_14_method_32_code 144 = .ok (.iload 8, 2) := by decide +kernel
theorem d_Md_check_146 : decode prog_14_method_32_code 146 = .ok (.aload_n 0, 1) := by decide +kernel
theorem d_Md_check_147 : decode prog_14_method_32_code 147 = .ok (.getfield 64, 3) := by decide +kernel
theorem d_Md_check_150 : decode prog_14_method_32_code 150 = .ok (.iload 9, 2) := by decide +kernel
theorem d_Md_check_152 : decode prog_14_method_32_code 152 = .ok (.iaload, 1) := by decide +kernel
theorem d_Md_check_153 : decode prog_14_method_32_code 153 = .ok (.invokestatic 147, 3) := by decide +kernel
theorem d_Md_check_156 : decode prog_14_method_32_code 156 = .ok (.ixor, 1) := by decide +kernel
theorem d_Md_check_157 : decode prog_14_method_32_code 157 = .ok (.iastore, 1) := by decide +kernel
theorem d_Md_check_158 : decode prog_14_method_32_code 158 = .ok (.iinc 9 1, 3) := by decide +kernel
theorem d_Md_check_161 : decode prog_14_method_32_code 161 = .ok (.goto (-47), 3) := by decide +kernel
theorem d_Md_check_164 : decode prog_14_method_32_code 164 = .ok (.iinc 7 1, 3) := by decide +kernel
theorem d_Md_check_167 : decode prog_14_method_32_code 167 = .ok (.goto (-72), 3) := by decide +kernel
theorem d_Md_check_170 : decode prog_14_method_32_code 170 = .ok (.iconst 0, 1) := by decide +kernel
theorem d_Md_check_171 : decode prog_14_method_32_code 171 = .ok (.istore 7, 2) := by decide +kernel
theorem d_Md_check_173 : decode prog_14_method_32_code 173 = .ok (.iload 7, 2) := by decide +kernel
theorem d_Md_check_175 : decode prog_14_method_32_code 175 = .ok (.iload 5, 2) := by decide +kernel
theorem d_Md_check_177 : decode prog_14_method_32_code 177 = .ok (.iload_n 3, 1) := by decide +kernel
theorem d_Md_check_178 : decode prog_14_method_32_code 178 = .ok (.iadd, 1) := by decide +kernel
theorem d_Md_check_179 : decode prog_14_method_32_code 179 = .ok (.if_icmp .ge 51, 3) := by decide +kernel
theorem d_Md_check_182 : decode prog_14_method_32_code 182 = .ok (.aload_n 0, 1) := by decide +kernel
theorem d_Md_check_183 : decode prog_14_method_32_code 183 = .ok (.getfield 43, 3) := by decide +kernel
theorem d_Md_check_186 : decode prog_14_method_32_code 186 = .ok (.aload_n 0, 1) := by decide +kernel
theorem d_Md_check_187 : decode prog_14_method_32_code 187 = .ok (.iload_n 1, 1) := by decide +kernel
theorem d_Md_check_188 : decode prog_14_method_32_code 188 = .ok (.iload_n 2, 1) := by decide +kernel
theorem d_Md_check_189 : decode prog_14_method_32_code 189 = .ok (.iload 4, 2) := by decide +kernel
theorem d_Md_check_191 : decode prog_14_method_32_code 191 = .ok (.iload 7, 2) := by decide +kernel
theorem d_Md_check_193 : decode prog_14_method_32_code 193 = .ok (.invokevirtual 160, 3) := by decide +kernel
theorem d_Md_check_196 : decode prog_14_method_32_code 196 = .ok (.iload 7, 2) := by decide +kernel
theorem d_Md_check_198 : decode prog_14_method_32_code 198 = .ok (.iload 5, 2) := by decide +kernel
theorem d_Md_check_200 : decode prog_14_method_32_code 200 = .ok (.if_icmp .ge 16, 3) := by decide +kernel
theorem d_Md_check_203 : decode prog_14_method_32_code 203 = .ok (.aload_n 0, 1) := by decide +kernel
theorem d_Md_check_204 : decode prog_14_method_32_code 204 = .ok (.getfield 40, 3) := by decide +kernel
theorem d_Md_check_207 : decode prog_14_method_32_code 207 = .ok (.iload 6, 2) := by decide +kernel
theorem d_Md_check_209 : decode prog_14_method_32_code 209 = .ok (.iload 7, 2) := by decide +kernel
theorem d_Md_check_211 : decode prog_14_method_32_code 211 = .ok (.iadd, 1) := by decide +kernel
theorem d_Md_check_212 : decode prog_14_method_32_code 212 = .ok (.iaload, 1) := by decide +kernel
theorem d_Md_check_213 : decode prog_14_method_32_code 213 = .ok (.goto 10, 3) := by decide +kernel
theorem d_Md_check_216 : decode prog_14_method_32_code 216 = .ok (.aload_n 0, 1) := by decide +kernel
theorem d_Md_check_217 : decode prog_14_method_32_code 217 = .ok (.getfield 46, 3) := by decide +kernel
theorem d_Md_check_220 : decode prog_14_method_32_code 220 = .ok (.iload 7, 2) := by decide +kernel
theorem d_Md_check_222 : decode prog_14_method_32_code 222 = .ok (.iaload, 1) := by decide +kernel
theorem d_Md_check_223 : decode prog_14_method_32_code 223 = .ok (.iastore, 1) := by decide +kernel
theorem d_Md_check_224 : decode prog_14_method_32_code 224 = .ok (.iinc 7 1, 3) := by decide +kernel
theorem d_Md_check_227 : decode prog_14_method_32_code 227 = .ok (.goto (-54), 3) := by decide +kernel
theorem d_Md_check_230 : decode prog_14_method_32_code 230 = .ok (.iinc 4 1, 3) := by decide +kernel
theorem d_Md_check_233 : decode prog_14_method_32_code 233 = .ok (.goto (-218), 3) := by decide +kernel
theorem d_Md_check_236 : decode prog_14_method_32_code 236 = .ok (.return_, 1) := by decide +kernel
theorem d_Md_generate_0 : decode prog_14_method_28_code 0 = .ok (.aload_n 0, 1) := by decide +kernel
theorem d_Md_generate_1 : decode prog_14_method_28_code 1 = .ok (.getfield 64, 3) := by decide +kernel
theorem d_Md_generate_4 : decode prog_14_method_28_code 4 = .ok (.iconst 0, 1) := by decide +kernel
theorem d_Md_generate_5 : decode prog_14_method_28_code 5 = .ok (.iconst 1, 1) := by decide +kernel
theorem d_Md_generate_6 : decode prog_14_method_28_code 6 = .ok (.iastore, 1) := by decide +kernel
theorem d_Md_generate_7 : decode prog_14_method_28_code 7 = .ok (.iconst 0, 1) := by decide +kernel
theorem d_Md_generate_8 : decode prog_14_method_28_code 8 = .ok (.istore_n 2, 1) := by decide +kernel
theorem d_Md_generate_9 : decode prog_14_method_28_code 9 = .ok (.iload_n 2, 1) := by decide +kernel
theorem d_Md_generate_10 : decode prog_14_method_28_code 10 = .ok (.iload_n 1, 1) := by decide +kernel
theorem d_Md_generate_11 : decode prog_14_method_28_code 11 = .ok (.if_icmp .ge 67, 3) := by decide +kernel
theorem d_Md_generate_14 : decode prog_14_method_28_code 14 = .ok (.iload_n 2, 1) := by decide +kernel
theorem d_Md_generate_15 : decode prog_14_method_28_code 15 = .ok (.invokestatic 144, 3) := by decide +kernel
theorem d_Md_generate_18 : decode prog_14_method_28_code 18 = .ok (.istore_n 3, 1) := by decide +kernel
theorem d_Md_generate_19 : decode prog_14_method_28_code 19 = .ok (.aload_n 0, 1) := by decide +kernel
theorem d_Md_generate_20 : decode prog_14_method_28_code 20 = .ok (.getfield 64, 3) := by decide +kernel
theorem d_Md_generate_23 : decode prog_14_method_28_code 23 = .ok (.iload_n 2, 1) := by decide +kernel
theorem d_Md_generate_24 : decode prog_14_method_28_code 24 = .ok (.iconst 1, 1) := by decide +kernel
theorem d_Md_generate_25 : decode prog_14_method_28_code 25 = .ok (.iadd, 1) := by decide +kernel
theorem d_Md_generate_26 : decode prog_14_method_28_code 26 = .ok (.iconst 0, 1) := by decide +kernel
theorem d_Md_generate_27 : decode prog_14_method_28_code 27 = .ok (.iastore, 1) := by decide +kernel
theorem d_Md_generate_28 : decode prog_14_method_28_code 28 = .ok (.iload_n 2, 1) := by decide +kernel
theorem d_Md_generate_29 : decode prog_14_method_28_code 29 = .ok (.iconst 1, 1) := by decide +kernel
theorem d_Md_generate_30 : decode prog_14_method_28_code 30 = .ok (.iadd, 1) := by decide +kernel
theorem d_Md_generate_31 : decode prog_14_method_28_code 31 = .ok (.istore 4, 2) := by decide +kernel
theorem d_Md_generate_33 : decode prog_14_method_28_code 33 = .ok (.iload 4, 2) := by decide +kernel
theorem d_Md_generate_35 : decode prog_14_method_28_code 35 = .ok (.ifCond .le 37, 3) := by decide +kernel
theorem d_Md_generate_38 : decode prog_14_method_28_code 38 = .ok (.aload_n 0, 1) := by decide +kernel
theorem d_Md_generate_39 : decode prog_14_method_28_code 39 = .ok (.getfield 64, 3) := by decide +kernel
theorem d_Md_generate_42 : decode prog_14_method_28_code 42 = .ok (.iload 4, 2) := by decide +kernel
theorem d_Md_generate_44 : decode prog_14_method_28_code 44 = .ok (.aload_n 0, 1) := by decide +kernel
theorem d_Md_generate_45 : decode prog_14_method_28_code 45 = .ok (.getfield 64, 3) := by decide +kernel
theorem d_Md_generate_48 : decode prog_14_method_28_code 48 = .ok (.iload 4, 2) := by decide +kernel
theorem d_Md_generate_50 : decode prog_14_method_28_code 50 = .ok (.iaload, 1) := by decide +kernel
theorem d_Md_generate_51 : decode prog_14_method_28_code 51 = .ok (.aload_n 0, 1) := by decide +kernel
theorem d_Md_generate_52 : decode prog_14_method_28_code 52 = .ok (.getfield 64, 3) := by decide +kernel
theorem d_Md_generate_55 : decode prog_14_method_28_code 55 = .ok (.iload 4, 2) := by decide +kernel
theorem d_Md_generate_57 : decode prog_14_method_28_code 57 = .ok (.iconst 1, 1) := by decide +kernel
theorem d_Md_generate_58 : decode prog_14_method_28_code 58 = .ok (.isub, 1) := by decide +kernel
theorem d_Md_generate_59 : decode prog_14_method_28_code 59 = .ok (.iaload, 1) := by decide +kernel
theorem d_Md_generate_60 : decode prog_14_method_28_code 60 = .ok (.iload_n 3, 1) := by decide +kernel
theorem d_Md_generate_61 : decode prog_14_method_28_code 61 = .ok (.invokestatic 147, 3) := by decide +kernel
theorem d_Md_generate_64 : decode prog_14_method_28_code 64 = .ok (.ixor, 1) := by decide +kernel
theorem d_Md_generate_65 : decode prog_14_method_28_code 65 = .ok (.iastore, 1) := by decide +kernel
theorem d_Md_generate_66 : decode prog_14_method_28_code 66 = .ok (.iinc 4 (-1), 3) := by decide +kernel
theorem d_Md_generate_69 : decode prog_14_method_28_code 69 = .ok (.goto (-36), 3) := by decide +kernel
theorem d_Md_generate_72 : decode prog_14_method_28_code 72 = .ok (.iinc 2 1, 3) := by decide +kernel
theorem d_Md_generate_75 : decode prog_14_method_28_code 75 = .ok (.goto (-66), 3) := by decide +kernel
theorem d_Md_generate_78 : decode prog_14_method_28_code 78 = .ok (.return_, 1) := by decide +kernel
theorem d_Md_two_0 : decode prog_14_method_27_code 0 = .ok (.iconst 1, 1) := by decide +kernel
theorem d_Md_two_1 : decode prog_14_method_27_code 1 = .ok (.istore_n 1, 1) := by decide +kernel
theorem d_Md_two_2 : decode prog_14_method_27_code 2 = .ok (.iload_n 0, 1) := by decide +kernel
theorem d_Md_two_3 : decode prog_14_method_27_code 3 = .ok (.sipush 255, 3) := by decide +kernel
theorem d_Md_two_6 : decode prog_14_method_27_code 6 = .ok (.irem, 1) := by decide +kernel
theorem d_Md_two_7 : decode prog_14_method_27_code 7 = .ok (.istore_n 2, 1) := by decide +kernel
theorem d_Md_two_8 : decode prog_14_method_27_code 8 = .ok (.iload_n 2, 1) := by decide +kernel
theorem d_Md_two_9 : decode prog_14_method_27_code 9 = .ok (.ifCond .ge 11, 3) := by decide +kernel
theorem d_Md_two_12 : decode prog_14_method_27_code 12 = .ok (.iload_n 2, 1) := by decide +kernel
theorem d_Md_two_13 : decode prog_14_method_27_code 13 = .ok (.sipush 255, 3) := by decide +kernel
theorem d_Md_two_16 : decode prog_14_method_27_code 16 = .ok (.iadd, 1) := by decide +kernel
theorem d_Md_two_17 : decode prog_14_method_27_code 17 = .ok (.goto 4, 3) := by decide +kernel
theorem d_Md_two_20 : decode prog_14_method_27_code 20 = .ok (.iload_n 2, 1) := by decide +kernel
theorem d_Md_two_21 : decode prog_14_method_27_code 21 = .ok (.istore_n 2, 1) := by decide +kernel
theorem d_Md_two_22 : decode prog_14_method_27_code 22 = .ok (.iconst 0, 1) := by decide +kernel
theorem d_Md_two_23 : decode prog_14_method_27_code 23 = .ok (.istore_n 3, 1) := by decide +kernel
theorem d_Md_two_24 : decode prog_14_method_27_code 24 = .ok (.iload_n 3, 1) := by decide +kernel
theorem d_Md_two_25 : decode prog_14_method_27_code 25 = .ok (.iload_n 2, 1) := by decide +kernel
theorem d_Md_two_26 : decode prog_14_method_27_code 26 = .ok (.if_icmp .ge 30, 3) := by decide +kernel
theorem d_Md_two_29 : decode prog_14_method_27_code 29 = .ok (.iload_n 1, 1) := by decide +kernel
theorem d_Md_two_30 : decode prog_14_method_27_code 30 = .ok (.iconst 1, 1) := by decide +kernel
theorem d_Md_two_31 : decode prog_14_method_27_code 31 = .ok (.ishl, 1) := by decide +kernel
theorem d_Md_two_32 : decode prog_14_method_27_code 32 = .ok (.istore_n 1, 1) := by decide +kernel
theorem d_Md_two_33 : decode prog_14_method_27_code 33 = .ok (.iload_n 1, 1) := by decide +kernel
theorem d_Md_two_34 : decode prog_14_method_27_code 34 = .ok (.sipush 255, 3) := by decide +kernel
theorem d_Md_two_37 : decode prog_14_method_27_code 37 = .ok (.if_icmp .le 11, 3) := by decide +kernel
theorem d_Md_two_40 : decode prog_14_method_27_code 40 = .ok (.iload_n 1, 1) := by decide +kernel
theorem d_Md_two_41 : decode prog_14_method_27_code 41 = .ok (.sipush 285, 3) := by decide +kernel
theorem d_Md_two_44 : decode prog_14_method_27_code 44 = .ok (.ixor, 1) := by decide +kernel
theorem d_Md_two_45 : decode prog_14_method_27_code 45 = .ok (.goto 4, 3) := by decide +kernel
theorem d_Md_two_48 : decode prog_14_method_27_code 48 = .ok (.iload_n 1, 1) := by decide +kernel
theorem d_Md_two_49 : decode prog_14_method_27_code 49 = .ok (.istore_n 1, 1) := by decide +kernel
theorem d_Md_two_50 : decode prog_14_method_27_code 50 = .ok (.iinc 3 1, 3) := by decide +kernel
theorem d_Md_two_53 : decode prog_14_method_27_code 53 = .ok (.goto (-29), 3) := by decide +kernel
theorem d_Md_two_56 : decode prog_14_method_27_code 56 = .ok (.iload_n 1, 1) := by decide +kernel
theorem d_Md_two_57 : decode prog_14_method_27_code 57 = .ok (.ireturn, 1) := by decide +kernel
theorem d_Md_times_0 : decode prog_14_method_26_code 0 = .ok (.iconst 0, 1) := by decide +kernel
theorem d_Md_times_1 : decode prog_14_method_26_code 1 = .ok (.istore_n 2, 1) := by decide +kernel
theorem d_Md_times_2 : decode prog_14_method_26_code 2 = .ok (.iload_n 0, 1) := by decide +kernel
theorem d_Md_times_3 : decode prog_14_method_26_code 3 = .ok (.istore_n 3, 1) := by decide +kernel
theorem d_Md_times_4 : decode prog_14_method_26_code 4 = .ok (.iload_n 1, 1) := by decide +kernel
theorem d_Md_times_5 : decode prog_14_method_26_code 5 = .ok (.istore 4, 2) := by decide +kernel
theorem d_Md_times_7 : decode prog_14_method_26_code 7 = .ok (.iload 4, 2) := by decide +kernel
theorem d_Md_times_9 : decode prog_14_method_26_code 9 = .ok (.ifCond .eq 49, 3) := by decide +kernel
theorem d_Md_times_12 : decode prog_14_method_26_code 12 = .ok (.iload 4, 2) := by decide +kernel
theorem d_Md_times_14 : decode prog_14_method_26_code 14 = .ok (.iconst 1, 1) := by decide +kernel
theorem d_Md_times_15 : decode prog_14_method_26_code 15 = .ok (.iand, 1) := by decide +kernel
theorem d_Md_times_16 : decode prog_14_method_26_code 16 = .ok (.iconst 1, 1) := by decide +kernel
theorem d_Md_times_17 : decode prog_14_method_26_code 17 = .ok (.if_icmp .ne 9, 3) := by decide +kernel
theorem d_Md_times_20 : decode prog_14_method_26_code 20 = .ok (.iload_n 2, 1) := by decide +kernel
theorem d_Md_times_21 : decode prog_14_method_26_code 21 = .ok (.iload_n 3, 1) := by decide +kernel
theorem d_Md_times_22 : decode prog_14_method_26_code 22 = .ok (.ixor, 1) := by decide +kernel
theorem d_Md_times_23 : decode prog_14_method_26_code 23 = .ok (.goto 4, 3) := by decide +kernel
theorem d_Md_times_26 : decode prog_14_method_26_code 26 = .ok (.iload_n 2, 1) := by decide +kernel
theorem d_Md_times_27 : decode prog_14_method_26_code 27 = .ok (.istore_n 2, 1) := by decide +kernel
theorem d_Md_times_28 : decode prog_14_method_26_code 28 = .ok (.iload_n 3, 1) := by decide +kernel
theorem d_Md_times_29 : decode prog_14_method_26_code 29 = .ok (.iconst 1, 1) := by decide +kernel
theorem d_Md_times_30 : decode prog_14_method_26_code 30 = .ok (.ishl, 1) := by decide +kernel
theorem d_Md_times_31 : decode prog_14_method_26_code 31 = .ok (.istore_n 3, 1) := by decide +kernel
theorem d_Md_times_32 : decode prog_14_method_26_code 32 = .ok (.iload_n 3, 1) := by decide +kernel
theorem d_Md_times_33 : decode prog_14_method_26_code 33 = .ok (.sipush 255, 3) := by decide +kernel
theorem d_Md_times_36 : decode prog_14_method_26_code 36 = .ok (.if_icmp .le 11, 3) := by decide +kernel
theorem d_Md_times_39 : decode prog_14_method_26_code 39 = .ok (.iload_n 3, 1) := by decide +kernel
theorem d_Md_times_40 : decode prog_14_method_26_code 40 = .ok (.sipush 285, 3) := by decide +kernel
theorem d_Md_times_43 : decode prog_14_method_26_code 43 = .ok (.ixor, 1) := by decide +kernel
theorem d_Md_times_44 : decode prog_14_method_26_code 44 = .ok (.goto 4, 3) := by decide +kernel
theorem d_Md_times_47 : decode prog_14_method_26_code 47 = .ok (.iload_n 3, 1) := by decide +kernel
theorem d_Md_times_48 : decode prog_14_method_26_code 48 = .ok (.istore_n 3, 1) := by decide +kernel
theorem d_Md_times_49 : decode prog_14_method_26_code 49 = .ok (.iload 4, 2) := by decide +kernel
theorem d_Md_times_51 : decode prog_14_method_26_code 51 = .ok (.iconst 1, 1) := by decide +kernel
theorem d_Md_times_52 : decode prog_14_method_26_code 52 = .ok (.ishr, 1) := by decide +kernel
theorem d_Md_times_53 : decode prog_14_method_26_code 53 = .ok (.istore 4, 2) := by decide +kernel
theorem d_Md_times_55 : decode prog_14_method_26_code 55 = .ok (.goto (-48), 3) := by decide +kernel
theorem d_Md_times_58 : decode prog_14_method_26_code 58 = .ok (.iload_n 2, 1) := by decide +kernel
theorem d_Md_times_59 : decode prog_14_method_26_code 59 = .ok (.ireturn, 1) := by decide +kernel
theorem d_Md_shareOf_0 : decode prog_14_method_29_code 0 = .ok (.aload_n 0, 1) := by decide +kernel
theorem d_Md_shareOf_1 : decode prog_14_method_29_code 1 = .ok (.iload_n 1, 1) := by decide +kernel
theorem d_Md_shareOf_2 : decode prog_14_method_29_code 2 = .ok (.iload_n 2, 1) := by decide +kernel
theorem d_Md_shareOf_3 : decode prog_14_method_29_code 3 = .ok (.invokevirtual 90, 3) := by decide +kernel
theorem d_Md_shareOf_6 : decode prog_14_method_29_code 6 = .ok (.istore 4, 2) := by decide +kernel
theorem d_Md_shareOf_8 : decode prog_14_method_29_code 8 = .ok (.aload_n 0, 1) := by decide +kernel
theorem d_Md_shareOf_9 : decode prog_14_method_29_code 9 = .ok (.iload_n 1, 1) := by decide +kernel
theorem d_Md_shareOf_10 : decode prog_14_method_29_code 10 = .ok (.iload_n 2, 1) := by decide +kernel
theorem d_Md_shareOf_11 : decode prog_14_method_29_code 11 = .ok (.invokevirtual 141, 3) := by decide +kernel
theorem d_Md_shareOf_14 : decode prog_14_method_29_code 14 = .ok (.iload 4, 2) := by decide +kernel
theorem d_Md_shareOf_16 : decode prog_14_method_29_code 16 = .ok (.idiv, 1) := by decide +kernel
theorem d_Md_shareOf_17 : decode prog_14_method_29_code 17 = .ok (.istore 5, 2) := by decide +kernel
theorem d_Md_shareOf_19 : decode prog_14_method_29_code 19 = .ok (.iload_n 3, 1) := by decide +kernel
theorem d_Md_shareOf_20 : decode prog_14_method_29_code 20 = .ok (.iload 4, 2) := by decide +kernel
theorem d_Md_shareOf_22 : decode prog_14_method_29_code 22 = .ok (.aload_n 0, 1) := by decide +kernel
theorem d_Md_shareOf_23 : decode prog_14_method_29_code 23 = .ok (.iload_n 1, 1) := by decide +kernel
theorem d_Md_shareOf_24 : decode prog_14_method_29_code 24 = .ok (.iload_n 2, 1) := by decide +kernel
theorem d_Md_shareOf_25 : decode prog_14_method_29_code 25 = .ok (.invokevirtual 141, 3) := by decide +kernel
theorem d_Md_shareOf_28 : decode prog_14_method_29_code 28 = .ok (.iload 4, 2) := by decide +kernel
theorem d_Md_shareOf_30 : decode prog_14_method_29_code 30 = .ok (.irem, 1) := by decide +kernel
theorem d_Md_shareOf_31 : decode prog_14_method_29_code 31 = .ok (.isub, 1) := by decide +kernel
theorem d_Md_shareOf_32 : decode prog_14_method_29_code 32 = .ok (.if_icmp .lt 10, 3) := by decide +kernel
theorem d_Md_shareOf_35 : decode prog_14_method_29_code 35 = .ok (.iload 5, 2) := by decide +kernel
theorem d_Md_shareOf_37 : decode prog_14_method_29_code 37 = .ok (.iconst 1, 1) := by decide +kernel
theorem d_Md_shareOf_38 : decode prog_14_method_29_code 38 = .ok (.iadd, 1) := by decide +kernel
theorem d_Md_shareOf_39 : decode prog_14_method_29_code 39 = .ok (.goto 5, 3) := by decide +kernel
theorem d_Md_shareOf_42 : decode prog_14_method_29_code 42 = .ok (.iload 5, 2) := by decide +kernel
theorem d_Md_shareOf_44 : decode prog_14_method_29_code 44 = .ok (.ireturn, 1) := by decide +kernel
theorem d_Md_startOf_0 : decode prog_14_method_30_code 0 = .ok (.iconst 0, 1) := by decide +kernel
theorem d_Md_startOf_1 : decode prog_14_method_30_code 1 = .ok (.istore 4, 2) := by decide +kernel
theorem d_Md_startOf_3 : decode prog_14_method_30_code 3 = .ok (.iconst 0, 1) := by decide +kernel
theorem d_Md_startOf_4 : decode prog_14_method_30_code 4 = .ok (.istore 5, 2) := by decide +kernel
theorem d_Md_startOf_6 : decode prog_14_method_30_code 6 = .ok (.iload 5, 2) := by decide +kernel
theorem d_Md_startOf_8 : decode prog_14_method_30_code 8 = .ok (.iload_n 3, 1) := by decide +kernel
theorem d_Md_startOf_9 : decode prog_14_method_30_code 9 = .ok (.if_icmp .ge 22, 3) := by decide +kernel
theorem d_Md_startOf_12 : decode prog_14_method_30_code 12 = .ok (.iload 4, 2) := by decide +kernel
theorem d_Md_startOf_14 : decode prog_14_method_30_code 14 = .ok (.aload_n 0, 1) := by decide +kernel
theorem d_Md_startOf_15 : decode prog_14_method_30_code 15 = .ok (.iload_n 1, 1) := by decide +kernel
theorem d_Md_startOf_16 : decode prog_14_method_30_code 16 = .ok (.iload_n 2, 1) := by decide +kernel
theorem d_Md_startOf_17 : decode prog_14_method_30_code 17 = .ok (.iload 5, 2) := by decide +kernel
theorem d_Md_startOf_19 : decode prog_14_method_30_code 19 = .ok (.invokevirtual 150, 3) := by decide +kernel
theorem d_Md_startOf_22 : decode prog_14_method_30_code 22 = .ok (.iadd, 1) := by decide +kernel
theorem d_Md_startOf_23 : decode prog_14_method_30_code 23 = .ok (.istore 4, 2) := by decide +kernel
theorem d_Md_startOf_25 : decode prog_14_method_30_code 25 = .ok (.iinc 5 1, 3) := by decide +kernel
theorem d_Md_startOf_28 : decode prog_14_method_30_code 28 = .ok (.goto (-22), 3) := by decide +kernel
theorem d_Md_startOf_31 : decode prog_14_method_30_code 31 = .ok (.iload 4, 2) := by decide +kernel
theorem d_Md_startOf_33 : decode prog_14_method_30_code 33 = .ok (.ireturn, 1) := by decide +kernel
theorem d_Md_placeOf_0 : decode prog_14_method_31_code 0 = .ok (.aload_n 0, 1) := by decide +kernel
theorem d_Md_placeOf_1 : decode prog_14_method_31_code 1 = .ok (.iload_n 1, 1) := by decide +kernel
theorem d_Md_placeOf_2 : decode prog_14_method_31_code 2 = .ok (.iload_n 2, 1) := by decide +kernel
theorem d_Md_placeOf_3 : decode prog_14_method_31_code 3 = .ok (.invokevirtual 90, 3) := by decide +kernel
theorem d_Md_placeOf_6 : decode prog_14_method_31_code 6 = .ok (.istore 5, 2) := by decide +kernel
theorem d_Md_placeOf_8 : decode prog_14_method_31_code 8 = .ok (.aload_n 0, 1) := by decide +kernel
theorem d_Md_placeOf_9 : decode prog_14_method_31_code 9 = .ok (.iload_n 1, 1) := by decide +kernel
theorem d_Md_placeOf_10 : decode prog_14_method_31_code 10 = .ok (.iload_n 2, 1) := by decide +kernel
theorem d_Md_placeOf_11 : decode prog_14_method_31_code 11 = .ok (.iload_n 3, 1) := by decide +kernel
theorem d_Md_placeOf_12 : decode prog_14_method_31_code 12 = .ok (.invokevirtual 150, 3) := by decide +kernel
theorem d_Md_placeOf_15 : decode prog_14_method_31_code 15 = .ok (.istore 6, 2) := by decide +kernel
theorem d_Md_placeOf_17 : decode prog_14_method_31_code 17 = .ok (.iload 4, 2) := by decide +kernel
theorem d_Md_placeOf_19 : decode prog_14_method_31_code 19 = .ok (.iload 6, 2) := by decide +kernel
theorem d_Md_placeOf_21 : decode prog_14_method_31_code 21 = .ok (.if_icmp .lt 21, 3) := by decide +kernel
theorem d_Md_placeOf_24 : decode prog_14_method_31_code 24 = .ok (.aload_n 0, 1) := by decide +kernel
theorem d_Md_placeOf_25 : decode prog_14_method_31_code 25 = .ok (.iload_n 1, 1) := by decide +kernel
theorem d_Md_placeOf_26 : decode prog_14_method_31_code 26 = .ok (.iload_n 2, 1) := by decide +kernel
theorem d_Md_placeOf_27 : decode prog_14_method_31_code 27 = .ok (.invokevirtual 141, 3) := by decide +kernel
theorem d_Md_placeOf_30 : decode prog_14_method_31_code 30 = .ok (.iload 4, 2) := by decide +kernel
theorem d_Md_placeOf_32 : decode prog_14_method_31_code 32 = .ok (.iload 6, 2) := by decide +kernel
theorem d_Md_placeOf_34 : decode prog_14_method_31_code 34 = .ok (.isub, 1) := by decide +kernel
theorem d_Md_placeOf_35 : decode prog_14_method_31_code 35 = .ok (.iload 5, 2) := by decide +kernel
theorem d_Md_placeOf_37 : decode prog_14_method_31_code 37 = .ok (.imul, 1) := by decide +kernel
theorem d_Md_placeOf_38 : decode prog_14_method_31_code 38 = .ok (.iadd, 1) := by decide +kernel
theorem d_Md_placeOf_39 : decode prog_14_method_31_code 39 = .ok (.iload_n 3, 1) := by decide +kernel
theorem d_Md_placeOf_40 : decode prog_14_method_31_code 40 = .ok (.iadd, 1) := by decide +kernel
theorem d_Md_placeOf_41 : decode prog_14_method_31_code 41 = .ok (.ireturn, 1) := by decide +kernel
theorem d_Md_placeOf_42 : decode prog_14_method_31_code 42 = .ok (.aload_n 0, 1) := by decide +kernel
theorem d_Md_placeOf_43 : decode prog_14_method_31_code 43 = .ok (.iload_n 1, 1) := by decide +kernel
theorem d_Md_placeOf_44 : decode prog_14_method_31_code 44 = .ok (.iload_n 2, 1) := by decide +kernel
theorem d_Md_placeOf_45 : decode prog_14_method_31_code 45 = .ok (.invokevirtual 141, 3) := by decide +kernel
theorem d_Md_placeOf_48 : decode prog_14_method_31_code 48 = .ok (.iload 5, 2) := by decide +kernel
theorem d_Md_placeOf_50 : decode prog_14_method_31_code 50 = .ok (.idiv, 1) := by decide +kernel
theorem d_Md_placeOf_51 : decode prog_14_method_31_code 51 = .ok (.istore 7, 2) := by decide +kernel
theorem d_Md_placeOf_53 : decode prog_14_method_31_code 53 = .ok (.iload 5, 2) := by decide +kernel
theorem d_Md_placeOf_55 : decode prog_14_method_31_code 55 = .ok (.aload_n 0, 1) := by decide +kernel
theorem d_Md_placeOf_56 : decode prog_14_method_31_code 56 = .ok (.iload_n 1, 1) := by decide +kernel
theorem d_Md_placeOf_57 : decode prog_14_method_31_code 57 = .ok (.iload_n 2, 1) := by decide +kernel
theorem d_Md_placeOf_58 : decode prog_14_method_31_code 58 = .ok (.invokevirtual 141, 3) := by decide +kernel
theorem d_Md_placeOf_61 : decode prog_14_method_31_code 61 = .ok (.iload 5, 2) := by decide +kernel
theorem d_Md_placeOf_63 : decode prog_14_method_31_code 63 = .ok (.irem, 1) := by decide +kernel
theorem d_Md_placeOf_64 : decode prog_14_method_31_code 64 = .ok (.isub, 1) := by decide +kernel
theorem d_Md_placeOf_65 : decode prog_14_method_31_code 65 = .ok (.istore 8, 2) := by decide +kernel
theorem d_Md_placeOf_67 : decode prog_14_method_31_code 67 = .ok (.iload 4, 2) := by decide +kernel
theorem d_Md_placeOf_69 : decode prog_14_method_31_code 69 = .ok (.iload 7, 2) := by decide +kernel
theorem d_Md_placeOf_71 : decode prog_14_method_31_code 71 = .ok (.if_icmp .ge 13, 3) := by decide +kernel
theorem d_Md_placeOf_74 : decode prog_14_method_31_code 74 = .ok (.iload 4, 2) := by decide +kernel
theorem d_Md_placeOf_76 : decode prog_14_method_31_code 76 = .ok (.iload 5, 2) := by decide +kernel
theorem d_Md_placeOf_78 : decode prog_14_method_31_code 78 = .ok (.imul, 1) := by decide +kernel
theorem d_Md_placeOf_79 : decode prog_14_method_31_code 79 = .ok (.iload_n 3, 1) := by decide +kernel
theorem d_Md_placeOf_80 : decode prog_14_method_31_code 80 = .ok (.iadd, 1) := by decide +kernel
theorem d_Md_placeOf_81 : decode prog_14_method_31_code 81 = .ok (.goto 13, 3) := by decide +kernel
theorem d_Md_placeOf_84 : decode prog_14_method_31_code 84 = .ok (.iload 7, 2) := by decide +kernel
theorem d_Md_placeOf_86 : decode prog_14_method_31_code 86 = .ok (.iload 5, 2) := by decide +kernel
theorem d_Md_placeOf_88 : decode prog_14_method_31_code 88 = .ok (.imul, 1) := by decide +kernel
theorem d_Md_placeOf_89 : decode prog_14_method_31_code 89 = .ok (.iload_n 3, 1) := by decide +kernel
theorem d_Md_placeOf_90 : decode prog_14_method_31_code 90 = .ok (.iadd, 1) := by decide +kernel
theorem d_Md_placeOf_91 : decode prog_14_method_31_code 91 = .ok (.iload 8, 2) := by decide +kernel
theorem d_Md_placeOf_93 : decode prog_14_method_31_code 93 = .ok (.isub, 1) := by decide +kernel
theorem d_Md_placeOf_94 : decode prog_14_method_31_code 94 = .ok (.ireturn, 1) := by decide +kernel
theorem d_Md_frame_0 : decode prog_14_method_43_code 0 = .ok (.aload_n 0, 1) := by decide +kernel
theorem d_Md_frame_1 : decode prog_14_method_43_code 1 = .ok (.iload_n 1, 1) := by decide +kernel
theorem d_Md_frame_2 : decode prog_14_method_43_code 2 = .ok (.invokestatic 169, 3) := by decide +kernel
theorem d_Md_frame_5 : decode prog_14_method_43_code 5 = .ok (.putfield 163, 3) := by decide +kernel
theorem d_Md_frame_8 : decode prog_14_method_43_code 8 = .ok (.iconst 0, 1) := by decide +kernel
theorem d_Md_frame_9 : decode prog_14_method_43_code 9 = .ok (.istore_n 2, 1) := by decide +kernel
theorem d_Md_frame_10 : decode prog_14_method_43_code 10 = .ok (.iload_n 2, 1) := by decide +kernel
theorem d_Md_frame_11 : decode prog_14_method_43_code 11 = .ok (.aload_n 0, 1) := by decide +kernel
theorem d_Md_frame_12 : decode prog_14_method_43_code 12 = .ok (.getfield 19, 3) := by decide +kernel
theorem d_Md_frame_15 : decode prog_14_method_43_code 15 = .ok (.arraylength, 1) := by decide +kernel
theorem d_Md_frame_16 : decode prog_14_method_43_code 16 = .ok (.if_icmp .ge 23, 3) := by decide +kernel
theorem d_Md_frame_19 : decode prog_14_method_43_code 19 = .ok (.aload_n 0, 1) := by decide +kernel
theorem d_Md_frame_20 : decode prog_14_method_43_code 20 = .ok (.getfield 19, 3) := by decide +kernel
theorem d_Md_frame_23 : decode prog_14_method_43_code 23 = .ok (.iload_n 2, 1) := by decide +kernel
theorem d_Md_frame_24 : decode prog_14_method_43_code 24 = .ok (.iconst 0, 1) := by decide +kernel
theorem d_Md_frame_25 : decode prog_14_method_43_code 25 = .ok (.iastore, 1) := by decide +kernel
theorem d_Md_frame_26 : decode prog_14_method_43_code 26 = .ok (.aload_n 0, 1) := by decide +kernel
theorem d_Md_frame_27 : decode prog_14_method_43_code 27 = .ok (.getfield 22, 3) := by decide +kernel
theorem d_Md_frame_30 : decode prog_14_method_43_code 30 = .ok (.iload_n 2, 1) := by decide +kernel
theorem d_Md_frame_31 : decode prog_14_method_43_code 31 = .ok (.iconst 0, 1) := by decide +kernel
theorem d_Md_frame_32 : decode prog_14_method_43_code 32 = .ok (.iastore, 1) := by decide +kernel
theorem d_Md_frame_33 : decode prog_14_method_43_code 33 = .ok (.iinc 2 1, 3) := by decide +kernel
theorem d_Md_frame_36 : decode prog_14_method_43_code 36 = .ok (.goto (-26), 3) := by decide +kernel
theorem d_Md_frame_39 : decode prog_14_method_43_code 39 = .ok (.iconst 0, 1) := by decide +kernel
theorem d_Md_frame_40 : decode prog_14_method_43_code 40 = .ok (.istore_n 2, 1) := by decide +kernel
theorem d_Md_frame_41 : decode prog_14_method_43_code 41 = .ok (.iload_n 2, 1) := by decide +kernel
theorem d_Md_frame_42 : decode prog_14_method_43_code 42 = .ok (.aload_n 0, 1) := by decide +kernel
theorem d_Md_frame_43 : decode prog_14_method_43_code 43 = .ok (.getfield 163, 3) := by decide +kernel
theorem d_Md_frame_46 : decode prog_14_method_43_code 46 = .ok (.if_icmp .ge 45, 3) := by decide +kernel
theorem d_Md_frame_49 : decode prog_14_method_43_code 49 = .ok (.aload_n 0, 1) := by decide +kernel
theorem d_Md_frame_50 : decode prog_14_method_43_code 50 = .ok (.iload_n 2, 1) := by decide +kernel
theorem d_Md_frame_51 : decode prog_14_method_43_code 51 = .ok (.bipush 6, 2) := by decide +kernel
theorem d_Md_frame_53 : decode prog_14_method_43_code 53 = .ok (.iload_n 2, 1) := by decide +kernel
theorem d_Md_frame_54 : decode prog_14_method_43_code 54 = .ok (.iconst 2, 1) := by decide +kernel
theorem d_Md_frame_55 : decode prog_14_method_43_code 55 = .ok (.irem, 1) := by decide +kernel
theorem d_Md_frame_56 : decode prog_14_method_43_code 56 = .ok (.ifCond .ne 7, 3) := by decide +kernel
theorem d_Md_frame_59 : decode prog_14_method_43_code 59 = .ok (.iconst 1, 1) := by decide +kernel
theorem d_Md_frame_60 : decode prog_14_method_43_code 60 = .ok (.goto 4, 3) := by decide +kernel
theorem d_Md_frame_63 : decode prog_14_method_43_code 63 = .ok (.iconst 0, 1) := by decide +kernel
theorem d_Md_frame_64 : decode prog_14_method_43_code 64 = .ok (.invokevirtual 185, 3) := by decide +kernel
theorem d_Md_frame_67 : decode prog_14_method_43_code 67 = .ok (.aload_n 0, 1) := by decide +kernel
theorem d_Md_frame_68 : decode prog_14_method_43_code 68 = .ok (.bipush 6, 2) := by decide +kernel
theorem d_Md_frame_70 : decode prog_14_method_43_code 70 = .ok (.iload_n 2, 1) := by decide +kernel
theorem d_Md_frame_71 : decode prog_14_method_43_code 71 = .ok (.iload_n 2, 1) := by decide +kernel
theorem d_Md_frame_72 : decode prog_14_method_43_code 72 = .ok (.iconst 2, 1) := by decide +kernel
theorem d_Md_frame_73 : decode prog_14_method_43_code 73 = .ok (.irem, 1) := by decide +kernel
theorem d_Md_frame_74 : decode prog_14_method_43_code 74 = .ok (.ifCond .ne 7, 3) := by decide +kernel
theorem d_Md_frame_77 : decode prog_14_method_43_code 77 = .ok (.iconst 1, 1) := by decide +kernel
theorem d_Md_frame_78 : decode prog_14_method_43_code 78 = .ok (.goto 4, 3) := by decide +kernel
theorem d_Md_frame_81 : decode prog_14_method_43_code 81 = .ok (.iconst 0, 1) := by decide +kernel
theorem d_Md_frame_82 : decode prog_14_method_43_code 82 = .ok (.invokevirtual 185, 3) := by decide +kernel
theorem d_Md_frame_85 : decode prog_14_method_43_code 85 = .ok (.iinc 2 1, 3) := by decide +kernel
theorem d_Md_frame_88 : decode prog_14_method_43_code 88 = .ok (.goto (-47), 3) := by decide +kernel
theorem d_Md_frame_91 : decode prog_14_method_43_code 91 = .ok (.aload_n 0, 1) := by decide +kernel
theorem d_Md_frame_92 : decode prog_14_method_43_code 92 = .ok (.iconst 3, 1) := by decide +kernel
theorem d_Md_frame_93 : decode prog_14_method_43_code 93 = .ok (.iconst 3, 1) := by decide +kernel
theorem d_Md_frame_94 : decode prog_14_method_43_code 94 = .ok (.iconst 4, 1) := by decide +kernel
theorem d_Md_frame_95 : decode prog_14_method_43_code 95 = .ok (.iconst 1, 1) := by decide +kernel
theorem d_Md_frame_96 : decode prog_14_method_43_code 96 = .ok (.invokevirtual 192, 3) := by decide +kernel
theorem d_Md_frame_99 : decode prog_14_method_43_code 99 = .ok (.aload_n 0, 1) := by decide +kernel
theorem d_Md_frame_100 : decode prog_14_method_43_code 100 = .ok (.aload_n 0, 1) := by decide +kernel
theorem d_Md_frame_101 : decode prog_14_method_43_code 101 = .ok (.getfield 163, 3) := by decide +kernel
theorem d_Md_frame_104 : decode prog_14_method_43_code 104 = .ok (.iconst 4, 1) := by decide +kernel
theorem d_Md_frame_105 : decode prog_14_method_43_code 105 = .ok (.isub, 1) := by decide +kernel
theorem d_Md_frame_106 : decode prog_14_method_43_code 106 = .ok (.iconst 3, 1) := by decide +kernel
theorem d_Md_frame_107 : decode prog_14_method_43_code 107 = .ok (.iconst 4, 1) := by decide +kernel
theorem d_Md_frame_108 : decode prog_14_method_43_code 108 = .ok (.iconst 1, 1) := by decide +kernel
theorem d_Md_frame_109 : decode prog_14_method_43_code 109 = .ok (.invokevirtual 192, 3) := by decide +kernel
theorem d_Md_frame_112 : decode prog_14_method_43_code 112 = .ok (.aload_n 0, 1) := by decide +kernel
theorem d_Md_frame_113 : decode prog_14_method_43_code 113 = .ok (.iconst 3, 1) := by decide +kernel
theorem d_Md_frame_114 : decode prog_14_method_43_code 114 = .ok (.aload_n 0, 1) := by decide +kernel
theorem d_Md_frame_115 : decode prog_14_method_43_code 115 = .ok (.getfield 163, 3) := by decide +kernel
theorem d_Md_frame_118 : decode prog_14_method_43_code 118 = .ok (.iconst 4, 1) := by decide +kernel
theorem d_Md_frame_119 : decode prog_14_method_43_code 119 = .ok (.isub, 1) := by decide +kernel
theorem d_Md_frame_120 : decode prog_14_method_43_code 120 = .ok (.iconst 4, 1) := by decide +kernel
theorem d_Md_frame_121 : decode prog_14_method_43_code 121 = .ok (.iconst 1, 1) := by decide +kernel
theorem d_Md_frame_122 : decode prog_14_method_43_code 122 = .ok (.invokevirtual 192, 3) := by decide +kernel
theorem d_Md_frame_125 : decode prog_14_method_43_code 125 = .ok (.iload_n 1, 1) := by decide +kernel
theorem d_Md_frame_126 : decode prog_14_method_43_code 126 = .ok (.bipush 7, 2) := by decide +kernel
theorem d_Md_frame_128 : decode prog_14_method_43_code 128 = .ok (.idiv, 1) := by decide +kernel
theorem d_Md_frame_129 : decode prog_14_method_43_code 129 = .ok (.iconst 2, 1) := by decide +kernel
theorem d_Md_frame_130 : decode prog_14_method_43_code 130 = .ok (.iadd, 1) := by decide +kernel
theorem d_Md_frame_131 : decode prog_14_method_43_code 131 = .ok (.istore_n 2, 1) := by decide +kernel
theorem d_Md_frame_132 : decode prog_14_method_43_code 132 = .ok (.iconst 0, 1) := by decide +kernel
theorem d_Md_frame_133 : decode prog_14_method_43_code 133 = .ok (.istore_n 3, 1) := by decide +kernel
theorem d_Md_frame_134 : decode prog_14_method_43_code 134 = .ok (.iload_n 3, 1) := by decide +kernel
theorem d_Md_frame_135 : decode prog_14_method_43_code 135 = .ok (.iload_n 2, 1) := by decide +kernel
theorem d_Md_frame_136 : decode prog_14_method_43_code 136 = .ok (.if_icmp .ge 87, 3) := by decide +kernel
theorem d_Md_frame_139 : decode prog_14_method_43_code 139 = .ok (.iload_n 1, 1) := by decide +kernel
theorem d_Md_frame_140 : decode prog_14_method_43_code 140 = .ok (.iconst 1, 1) := by decide +kernel
theorem d_Md_frame_141 : decode prog_14_method_43_code 141 = .ok (.if_icmp .le 82, 3) := by decide +kernel
theorem d_Md_frame_144 : decode prog_14_method_43_code 144 = .ok (.iconst 0, 1) := by decide +kernel
theorem d_Md_frame_145 : decode prog_14_method_43_code 145 = .ok (.istore 4, 2) := by decide +kernel
theorem d_Md_frame_147 : decode prog_14_method_43_code 147 = .ok (.iload 4, 2) := by decide +kernel
theorem d_Md_frame_149 : decode prog_14_method_43_code 149 = .ok (.iload_n 2, 1) := by decide +kernel
theorem d_Md_frame_150 : decode prog_14_method_43_code 150 = .ok (.if_icmp .ge 67, 3) := by decide +kernel
theorem d_Md_frame_153 : decode prog_14_method_43_code 153 = .ok (.iload_n 3, 1) := by decide +kernel
theorem d_Md_frame_154 : decode prog_14_method_43_code 154 = .ok (.ifCond .ne 16, 3) := by decide +kernel
theorem d_Md_frame_157 : decode prog_14_method_43_code 157 = .ok (.iload 4, 2) := by decide +kernel
theorem d_Md_frame_159 : decode prog_14_method_43_code 159 = .ok (.ifCond .eq 23, 3) := by decide +kernel
theorem d_Md_frame_162 : decode prog_14_method_43_code 162 = .ok (.iload 4, 2) := by decide +kernel
theorem d_Md_frame_164 : decode prog_14_method_43_code 164 = .ok (.iload_n 2, 1) := by decide +kernel
theorem d_Md_frame_165 : decode prog_14_method_43_code 165 = .ok (.iconst 1, 1) := by decide +kernel
theorem d_Md_frame_166 : decode prog_14_method_43_code 166 = .ok (.isub, 1) := by decide +kernel
theorem d_Md_frame_167 : decode prog_14_method_43_code 167 = .ok (.if_icmp .eq 15, 3) := by decide +kernel
theorem d_Md_frame_170 : decode prog_14_method_43_code 170 = .ok (.iload_n 3, 1) := by decide +kernel
theorem d_Md_frame_171 : decode prog_14_method_43_code 171 = .ok (.iload_n 2, 1) := by decide +kernel
theorem d_Md_frame_172 : decode prog_14_method_43_code 172 = .ok (.iconst 1, 1) := by decide +kernel
theorem d_Md_frame_173 : decode prog_14_method_43_code 173 = .ok (.isub, 1) := by decide +kernel
theorem d_Md_frame_174 : decode prog_14_method_43_code 174 = .ok (.if_icmp .ne 12, 3) := by decide +kernel
theorem d_Md_frame_177 : decode prog_14_method_43_code 177 = .ok (.iload 4, 2) := by decide +kernel
theorem d_Md_frame_179 : decode prog_14_method_43_code 179 = .ok (.ifCond .ne 7, 3) := by decide +kernel
theorem d_Md_frame_182 : decode prog_14_method_43_code 182 = .ok (.iconst 1, 1) := by decide +kernel
theorem d_Md_frame_183 : decode prog_14_method_43_code 183 = .ok (.goto 4, 3) := by decide +kernel
theorem d_Md_frame_186 : decode prog_14_method_43_code 186 = .ok (.iconst 0, 1) := by decide +kernel
theorem d_Md_frame_187 : decode prog_14_method_43_code 187 = .ok (.istore 5, 2) := by decide +kernel
theorem d_Md_frame_189 : decode prog_14_method_43_code 189 = .ok (.iload 5, 2) := by decide +kernel
theorem d_Md_frame_191 : decode prog_14_method_43_code 191 = .ok (.ifCond .ne 20, 3) := by decide +kernel
theorem d_Md_frame_194 : decode prog_14_method_43_code 194 = .ok (.aload_n 0, 1) := by decide +kernel
theorem d_Md_frame_195 : decode prog_14_method_43_code 195 = .ok (.iload_n 1, 1) := by decide +kernel
theorem d_Md_frame_196 : decode prog_14_method_43_code 196 = .ok (.iload_n 3, 1) := by decide +kernel
theorem d_Md_frame_197 : decode prog_14_method_43_code 197 = .ok (.invokestatic 196, 3) := by decide +kernel
theorem d_Md_frame_200 : decode prog_14_method_43_code 200 = .ok (.iload_n 1, 1) := by decide +kernel
theorem d_Md_frame_201 : decode prog_14_method_43_code 201 = .ok (.iload 4, 2) := by decide +kernel
theorem d_Md_frame_203 : decode prog_14_method_43_code 203 = .ok (.invokestatic 196, 3) := by decide +kernel
theorem d_Md_frame_206 : decode prog_14_method_43_code 206 = .ok (.iconst 2, 1) := by decide +kernel
theorem d_Md_frame_207 : decode prog_14_method_43_code 207 = .ok (.iconst 0, 1) := by decide +kernel
theorem d_Md_frame_208 : decode prog_14_method_43_code 208 = .ok (.invokevirtual 192, 3) := by decide +kernel
theorem d_Md_frame_211 : decode prog_14_method_43_code 211 = .ok (.iinc 4 1, 3) := by decide +kernel
theorem d_Md_frame_214 : decode prog_14_method_43_code 214 = .ok (.goto (-67), 3) := by decide +kernel
theorem d_Md_frame_217 : decode prog_14_method_43_code 217 = .ok (.iinc 3 1, 3) := by decide +kernel
theorem d_Md_frame_220 : decode prog_14_method_43_code 220 = .ok (.goto (-86), 3) := by decide +kernel
theorem d_Md_frame_223 : decode prog_14_method_43_code 223 = .ok (.aload_n 0, 1) := by decide +kernel
theorem d_Md_frame_224 : decode prog_14_method_43_code 224 = .ok (.iconst 0, 1) := by decide +kernel
theorem d_Md_frame_225 : decode prog_14_method_43_code 225 = .ok (.invokevirtual 199, 3) := by decide +kernel
theorem d_Md_frame_228 : decode prog_14_method_43_code 228 = .ok (.aload_n 0, 1) := by decide +kernel
theorem d_Md_frame_229 : decode prog_14_method_43_code 229 = .ok (.bipush 8, 2) := by decide +kernel
theorem d_Md_frame_231 : decode prog_14_method_43_code 231 = .ok (.aload_n 0, 1) := by decide +kernel
theorem d_Md_frame_232 : decode prog_14_method_43_code 232 = .ok (.getfield 163, 3) := by decide +kernel
theorem d_Md_frame_235 : decode prog_14_method_43_code 235 = .ok (.bipush 8, 2) := by decide +kernel
theorem d_Md_frame_237 : decode prog_14_method_43_code 237 = .ok (.isub, 1) := by decide +kernel
theorem d_Md_frame_238 : decode prog_14_method_43_code 238 = .ok (.iconst 1, 1) := by decide +kernel
theorem d_Md_frame_239 : decode prog_14_method_43_code 239 = .ok (.invokevirtual 185, 3) := by decide +kernel
theorem d_Md_frame_242 : decode prog_14_method_43_code 242 = .ok (.iload_n 1, 1) := by decide +kernel
theorem d_Md_frame_243 : decode prog_14_method_43_code 243 = .ok (.bipush 12, 2) := by decide +kernel
theorem d_Md_frame_245 : decode prog_14_method_43_code 245 = .ok (.sipush 7973, 3) := by decide +kernel
theorem d_Md_frame_248 : decode prog_14_method_43_code 248 = .ok (.invokestatic 172, 3) := by decide +kernel
theorem d_Md_frame_251 : decode prog_14_method_43_code 251 = .ok (.istore_n 3, 1) := by decide +kernel
theorem d_Md_frame_252 : decode prog_14_method_43_code 252 = .ok (.iconst 0, 1) := by decide +kernel
theorem d_Md_frame_253 : decode prog_14_method_43_code 253 = .ok (.istore 4, 2) := by decide +kernel
theorem d_Md_frame_255 : decode prog_14_method_43_code 255 = .ok (.iload 4, 2) := by decide +kernel
theorem d_Md_frame_257 : decode prog_14_method_43_code 257 = .ok (.bipush 18, 2) := by decide +kernel
theorem d_Md_frame_259 : decode prog_14_method_43_code 259 = .ok (.if_icmp .ge 85, 3) := by decide +kernel
theorem d_Md_frame_262 : decode prog_14_method_43_code 262 = .ok (.iload_n 1, 1) := by decide +kernel
theorem d_Md_frame_263 : decode prog_14_method_43_code 263 = .ok (.bipush 6, 2) := by decide +kernel
theorem d_Md_frame_265 : decode prog_14_method_43_code 265 = .ok (.if_icmp .le 79, 3) := by decide +kernel
theorem d_Md_frame_268 : decode prog_14_method_43_code 268 = .ok (.aload_n 0, 1) := by decide +kernel
theorem d_Md_frame_269 : decode prog_14_method_43_code 269 = .ok (.aload_n 0, 1) := by decide +kernel
theorem d_Md_frame_270 : decode prog_14_method_43_code 270 = .ok (.getfield 163, 3) := by decide +kernel
theorem d_Md_frame_273 : decode prog_14_method_43_code 273 = .ok (.bipush 11, 2) := by decide +kernel
theorem d_Md_frame_275 : decode prog_14_method_43_code 275 = .ok (.isub, 1) := by decide +kernel
theorem d_Md_frame_276 : decode prog_14_method_43_code 276 = .ok (.iload 4, 2) := by decide +kernel
theorem d_Md_frame_278 : decode prog_14_method_43_code 278 = .ok (.iconst 3, 1) := by decide +kernel
theorem d_Md_frame_279 : decode prog_14_method_43_code 279 = .ok (.irem, 1) := by decide +kernel
theorem d_Md_frame_280 : decode prog_14_method_43_code 280 = .ok (.iadd, 1) := by decide +kernel
theorem d_Md_frame_281 : decode prog_14_method_43_code 281 = .ok (.iload 4, 2) := by decide +kernel
theorem d_Md_frame_283 : decode prog_14_method_43_code 283 = .ok (.iconst 3, 1) := by decide +kernel
theorem d_Md_frame_284 : decode prog_14_method_43_code 284 = .ok (.idiv, 1) := by decide +kernel
theorem d_Md_frame_285 : decode prog_14_method_43_code 285 = .ok (.iload_n 3, 1) := by decide +kernel
theorem d_Md_frame_286 : decode prog_14_method_43_code 286 = .ok (.iload 4, 2) := by decide +kernel
theorem d_Md_frame_288 : decode prog_14_method_43_code 288 = .ok (.ishr, 1) := by decide +kernel
theorem d_Md_frame_289 : decode prog_14_method_43_code 289 = .ok (.iconst 1, 1) := by decide +kernel
theorem d_Md_frame_290 : decode prog_14_method_43_code 290 = .ok (.iand, 1) := by decide +kernel
theorem d_Md_frame_291 : decode prog_14_method_43_code 291 = .ok (.iconst 1, 1) := by decide +kernel
theorem d_Md_frame_292 : decode prog_14_method_43_code 292 = .ok (.if_icmp .ne 7, 3) := by decide +kernel
theorem d_Md_frame_295 : decode prog_14_method_43_code 295 = .ok (.iconst 1, 1) := by decide +kernel
theorem d_Md_frame_296 : decode prog_14_method_43_code 296 = .ok (.goto 4, 3) := by decide +kernel
theorem d_Md_frame_299 : decode prog_14_method_43_code 299 = .ok (.iconst 0, 1) := by decide +kernel
theorem d_Md_frame_300 : decode prog_14_method_43_code 300 = .ok (.invokevirtual 185, 3) := by decide +kernel
theorem d_Md_frame_303 : decode prog_14_method_43_code 303 = .ok (.aload_n 0, 1) := by decide +kernel
theorem d_Md_frame_304 : decode prog_14_method_43_code 304 = .ok (.iload 4, 2) := by decide +kernel
theorem d_Md_frame_306 : decode prog_14_method_43_code 306 = .ok (.iconst 3, 1) := by decide +kernel
theorem d_Md_frame_307 : decode prog_14_method_43_code 307 = .ok (.idiv, 1) := by decide +kernel
theorem d_Md_frame_308 : decode prog_14_method_43_code 308 = .ok (.aload_n 0, 1) := by decide +kernel
theorem d_Md_frame_309 : decode prog_14_method_43_code 309 = .ok (.getfield 163, 3) := by decide +kernel
theorem d_Md_frame_312 : decode prog_14_method_43_code 312 = .ok (.bipush 11, 2) := by decide +kernel
theorem d_Md_frame_314 : decode prog_14_method_43_code 314 = .ok (.isub, 1) := by decide +kernel
theorem d_Md_frame_315 : decode prog_14_method_43_code 315 = .ok (.iload 4, 2) := by decide +kernel
theorem d_Md_frame_317 : decode prog_14_method_43_code 317 = .ok (.iconst 3, 1) := by decide +kernel
theorem d_Md_frame_318 : decode prog_14_method_43_code 318 = .ok (.irem, 1) := by decide +kernel
theorem d_Md_frame_319 : decode prog_14_method_43_code 319 = .ok (.iadd, 1) := by decide +kernel
theorem d_Md_frame_320 : decode prog_14_method_43_code 320 = .ok (.iload_n 3, 1) := by decide +kernel
theorem d_Md_frame_321 : decode prog_14_method_43_code 321 = .ok (.iload 4, 2) := by decide +kernel
theorem d_Md_frame_323 : decode prog_14_method_43_code 323 = .ok (.ishr, 1) := by decide +kernel
theorem d_Md_frame_324 : decode prog_14_method_43_code 324 = .ok (.iconst 1, 1) := by decide +kernel
theorem d_Md_frame_325 : decode prog_14_method_43_code 325 = .ok (.iand, 1) := by decide +kernel
theorem d_Md_frame_326 : decode prog_14_method_43_code 326 = .ok (.iconst 1, 1) := by decide +kernel
theorem d_Md_frame_327 : decode prog_14_method_43_code 327 = .ok (.if_icmp .ne 7, 3) := by decide +kernel
theorem d_Md_frame_330 : decode prog_14_method_43_code 330 = .ok (.iconst 1, 1) := by decide +kernel
theorem d_Md_frame_331 : decode prog_14_method_43_code 331 = .ok (.goto 4, 3) := by decide +kernel
theorem d_Md_frame_334 : decode prog_14_method_43_code 334 = .ok (.iconst 0, 1) := by decide +kernel
theorem d_Md_frame_335 : decode prog_14_method_43_code 335 = .ok (.invokevirtual 185, 3) := by decide +kernel
theorem d_Md_frame_338 : decode prog_14_method_43_code 338 = .ok (.iinc 4 1, 3) := by decide +kernel
theorem d_Md_frame_341 : decode prog_14_method_43_code 341 = .ok (.goto (-86), 3) := by decide +kernel
theorem d_Md_frame_344 : decode prog_14_method_43_code 344 = .ok (.return_, 1) := by decide +kernel
theorem d_Md_sideOf_0 : decode prog_14_method_7_code 0 = .ok (.bipush 17, 2) := by decide +kernel
theorem d_Md_sideOf_2 : decode prog_14_method_7_code 2 = .ok (.iconst 4, 1) := by decide +kernel
theorem d_Md_sideOf_3 : decode prog_14_method_7_code 3 = .ok (.iload_n 0, 1) := by decide +kernel
theorem d_Md_sideOf_4 : decode prog_14_method_7_code 4 = .ok (.imul, 1) := by decide +kernel
theorem d_Md_sideOf_5 : decode prog_14_method_7_code 5 = .ok (.iadd, 1) := by decide +kernel
theorem d_Md_sideOf_6 : decode prog_14_method_7_code 6 = .ok (.ireturn, 1) := by decide +kernel
theorem d_Md_fix_0 : decode prog_14_method_34_code 0 = .ok (.iload_n 1, 1) := by decide +kernel
theorem d_Md_fix_1 : decode prog_14_method_34_code 1 = .ok (.ifCond .lt 55, 3) := by decide +kernel
theorem d_Md_fix_4 : decode prog_14_method_34_code 4 = .ok (.iload_n 2, 1) := by decide +kernel
theorem d_Md_fix_5 : decode prog_14_method_34_code 5 = .ok (.ifCond .lt 51, 3) := by decide +kernel
theorem d_Md_fix_8 : decode prog_14_method_34_code 8 = .ok (.iload_n 1, 1) := by decide +kernel
theorem d_Md_fix_9 : decode prog_14_method_34_code 9 = .ok (.aload_n 0, 1) := by decide +kernel
theorem d_Md_fix_10 : decode prog_14_method_34_code 10 = .ok (.getfield 163, 3) := by decide +kernel
theorem d_Md_fix_13 : decode prog_14_method_34_code 13 = .ok (.if_icmp .ge 43, 3) := by decide +kernel
theorem d_Md_fix_16 : decode prog_14_method_34_code 16 = .ok (.iload_n 2, 1) := by decide +kernel
theorem d_Md_fix_17 : decode prog_14_method_34_code 17 = .ok (.aload_n 0, 1) := by decide +kernel
theorem d_Md_fix_18 : decode prog_14_method_34_code 18 = .ok (.getfield 163, 3) := by decide +kernel
theorem d_Md_fix_21 : decode prog_14_method_34_code 21 = .ok (.if_icmp .ge 35, 3) := by decide +kernel
theorem d_Md_fix_24 : decode prog_14_method_34_code 24 = .ok (.aload_n 0, 1) := by decide +kernel
theorem d_Md_fix_25 : decode prog_14_method_34_code 25 = .ok (.getfield 19, 3) := by decide +kernel
theorem d_Md_fix_28 : decode prog_14_method_34_code 28 = .ok (.aload_n 0, 1) := by decide +kernel
theorem d_Md_fix_29 : decode prog_14_method_34_code 29 = .ok (.iload_n 1, 1) := by decide +kernel
theorem d_Md_fix_30 : decode prog_14_method_34_code 30 = .ok (.iload_n 2, 1) := by decide +kernel
theorem d_Md_fix_31 : decode prog_14_method_34_code 31 = .ok (.invokevirtual 166, 3) := by decide +kernel
theorem d_Md_fix_34 : decode prog_14_method_34_code 34 = .ok (.iload_n 3, 1) := by decide +kernel
theorem d_Md_fix_35 : decode prog_14_method_34_code 35 = .ok (.ifCond .eq 7, 3) := by decide +kernel
theorem d_Md_fix_38 : decode prog_14_method_34_code 38 = .ok (.iconst 1, 1) := by decide +kernel
theorem d_Md_fix_39 : decode prog_14_method_34_code 39 = .ok (.goto 4, 3) := by decide +kernel
theorem d_Md_fix_42 : decode prog_14_method_34_code 42 = .ok (.iconst 0, 1) := by decide +kernel
theorem d_Md_fix_43 : decode prog_14_method_34_code 43 = .ok (.iastore, 1) := by decide +kernel
theorem d_Md_fix_44 : decode prog_14_method_34_code 44 = .ok (.aload_n 0, 1) := by decide +kernel
theorem d_Md_fix_45 : decode prog_14_method_34_code 45 = .ok (.getfield 22, 3) := by decide +kernel
theorem d_Md_fix_48 : decode prog_14_method_34_code 48 = .ok (.aload_n 0, 1) := by decide +kernel
theorem d_Md_fix_49 : decode prog_14_method_34_code 49 = .ok (.iload_n 1, 1) := by decide +kernel
theorem d_Md_fix_50 : decode prog_14_method_34_code 50 = .ok (.iload_n 2, 1) := by decide +kernel
theorem d_Md_fix_51 : decode prog_14_method_34_code 51 = .ok (.invokevirtual 166, 3) := by decide +kernel
theorem d_Md_fix_54 : decode prog_14_method_34_code 54 = .ok (.iconst 1, 1) := by decide +kernel
theorem d_Md_fix_55 : decode prog_14_method_34_code 55 = .ok (.iastore, 1) := by decide +kernel
theorem d_Md_fix_56 : decode prog_14_method_34_code 56 = .ok (.return_, 1) := by decide +kernel
theorem d_Md_moduleAt_0 : decode prog_14_method_33_code 0 = .ok (.iload_n 1, 1) := by decide +kernel
theorem d_Md_moduleAt_1 : decode prog_14_method_33_code 1 = .ok (.sipush 177, 3) := by decide +kernel
theorem d_Md_moduleAt_4 : decode prog_14_method_33_code 4 = .ok (.iload_n 2, 1) := by decide +kernel
theorem d_Md_moduleAt_5 : decode prog_14_method_33_code 5 = .ok (.imul, 1) := by decide +kernel
theorem d_Md_moduleAt_6 : decode prog_14_method_33_code 6 = .ok (.iadd, 1) := by decide +kernel
theorem d_Md_moduleAt_7 : decode prog_14_method_33_code 7 = .ok (.ireturn, 1) := by decide +kernel
theorem d_Md_square_0 : decode prog_14_method_42_code 0 = .ok (.iload_n 3, 1) := by decide +kernel
theorem d_Md_square_1 : decode prog_14_method_42_code 1 = .ok (.ineg, 1) := by decide +kernel
theorem d_Md_square_2 : decode prog_14_method_42_code 2 = .ok (.istore 5, 2) := by decide +kernel
theorem d_Md_square_4 : decode prog_14_method_42_code 4 = .ok (.iload 5, 2) := by decide +kernel
theorem d_Md_square_6 : decode prog_14_method_42_code 6 = .ok (.iload_n 3, 1) := by decide +kernel
theorem d_Md_square_7 : decode prog_14_method_42_code 7 = .ok (.if_icmp .gt 82, 3) := by decide +kernel
theorem d_Md_square_10 : decode prog_14_method_42_code 10 = .ok (.iload_n 3, 1) := by decide +kernel
theorem d_Md_square_11 : decode prog_14_method_42_code 11 = .ok (.ineg, 1) := by decide +kernel
theorem d_Md_square_12 : decode prog_14_method_42_code 12 = .ok (.istore 6, 2) := by decide +kernel
theorem d_Md_square_14 : decode prog_14_method_42_code 14 = .ok (.iload 6, 2) := by decide +kernel
theorem d_Md_square_16 : decode prog_14_method_42_code 16 = .ok (.iload_n 3, 1) := by decide +kernel
theorem d_Md_square_17 : decode prog_14_method_42_code 17 = .ok (.if_icmp .gt 66, 3) := by decide +kernel
theorem d_Md_square_20 : decode prog_14_method_42_code 20 = .ok (.iload 6, 2) := by decide +kernel
theorem d_Md_square_22 : decode prog_14_method_42_code 22 = .ok (.iload 5, 2) := by decide +kernel
theorem d_Md_square_24 : decode prog_14_method_42_code 24 = .ok (.invokestatic 189, 3) := by decide +kernel
theorem d_Md_square_27 : decode prog_14_method_42_code 27 = .ok (.istore 7, 2) := by decide +kernel
theorem d_Md_square_29 : decode prog_14_method_42_code 29 = .ok (.aload_n 0, 1) := by decide +kernel
theorem d_Md_square_30 : decode prog_14_method_42_code 30 = .ok (.iload_n 1, 1) := by decide +kernel
theorem d_Md_square_31 : decode prog_14_method_42_code 31 = .ok (.iload 6, 2) := by decide +kernel
theorem d_Md_square_33 : decode prog_14_method_42_code 33 = .ok (.iadd, 1) := by decide +kernel
theorem d_Md_square_34 : decode prog_14_method_42_code 34 = .ok (.iload_n 2, 1) := by decide +kernel
theorem d_Md_square_35 : decode prog_14_method_42_code 35 = .ok (.iload 5, 2) := by decide +kernel
theorem d_Md_square_37 : decode prog_14_method_42_code 37 = .ok (.iadd, 1) := by decide +kernel
theorem d_Md_square_38 : decode prog_14_method_42_code 38 = .ok (.iload 4, 2) := by decide +kernel
theorem d_Md_square_40 : decode prog_14_method_42_code 40 = .ok (.ifCond .eq 23, 3) := by decide +kernel
theorem d_Md_square_43 : decode prog_14_method_42_code 43 = .ok (.iload 7, 2) := by decide +kernel
theorem d_Md_square_45 : decode prog_14_method_42_code 45 = .ok (.iconst 2, 1) := by decide +kernel
theorem d_Md_square_46 : decode prog_14_method_42_code 46 = .ok (.if_icmp .eq 13, 3) := by decide +kernel
theorem d_Md_square_49 : decode prog_14_method_42_code 49 = .ok (.iload 7, 2) := by decide +kernel
theorem d_Md_square_51 : decode prog_14_method_42_code 51 = .ok (.iconst 4, 1) := by decide +kernel
theorem d_Md_square_52 : decode prog_14_method_42_code 52 = .ok (.if_icmp .eq 7, 3) := by decide +kernel
theorem d_Md_square_55 : decode prog_14_method_42_code 55 = .ok (.iconst 1, 1) := by decide +kernel
theorem d_Md_square_56 : decode prog_14_method_42_code 56 = .ok (.goto 18, 3) := by decide +kernel
theorem d_Md_square_59 : decode prog_14_method_42_code 59 = .ok (.iconst 0, 1) := by decide +kernel
theorem d_Md_square_60 : decode prog_14_method_42_code 60 = .ok (.goto 14, 3) := by decide +kernel
theorem d_Md_square_63 : decode prog_14_method_42_code 63 = .ok (.iload 7, 2) := by decide +kernel
theorem d_Md_square_65 : decode prog_14_method_42_code 65 = .ok (.iconst 1, 1) := by decide +kernel
theorem d_Md_square_66 : decode prog_14_method_42_code 66 = .ok (.if_icmp .eq 7, 3) := by decide +kernel
theorem d_Md_square_69 : decode prog_14_method_42_code 69 = .ok (.iconst 1, 1) := by decide +kernel
theorem d_Md_square_70 : decode prog_14_method_42_code 70 = .ok (.goto 4, 3) := by decide +kernel
theorem d_Md_square_73 : decode prog_14_method_42_code 73 = .ok (.iconst 0, 1) := by decide +kernel
theorem d_Md_square_74 : decode prog_14_method_42_code 74 = .ok (.invokevirtual 185, 3) := by decide +kernel
theorem d_Md_square_77 : decode prog_14_method_42_code 77 = .ok (.iinc 6 1, 3) := by decide +kernel
theorem d_Md_square_80 : decode prog_14_method_42_code 80 = .ok (.goto (-66), 3) := by decide +kernel
theorem d_Md_square_83 : decode prog_14_method_42_code 83 = .ok (.iinc 5 1, 3) := by decide +kernel
theorem d_Md_square_86 : decode prog_14_method_42_code 86 = .ok (.goto (-82), 3) := by decide +kernel
theorem d_Md_square_89 : decode prog_14_method_42_code 89 = .ok (.return_, 1) := by decide +kernel
theorem d_Md_greater_0 : decode prog_14_method_35_code 0 = .ok (.iload_n 0, 1) := by decide +kernel
theorem d_Md_greater_1 : decode prog_14_method_35_code 1 = .ok (.ifCond .ge 8, 3) := by decide +kernel
theorem d_Md_greater_4 : decode prog_14_method_35_code 4 = .ok (.iload_n 0, 1) := by decide +kernel
theorem d_Md_greater_5 : decode prog_14_method_35_code 5 = .ok (.ineg, 1) := by decide +kernel
theorem d_Md_greater_6 : decode prog_14_method_35_code 6 = .ok (.goto 4, 3) := by decide +kernel
theorem d_Md_greater_9 : decode prog_14_method_35_code 9 = .ok (.iload_n 0, 1) := by decide +kernel
theorem d_Md_greater_10 : decode prog_14_method_35_code 10 = .ok (.istore_n 2, 1) := by decide +kernel
theorem d_Md_greater_11 : decode prog_14_method_35_code 11 = .ok (.iload_n 1, 1) := by decide +kernel
theorem d_Md_greater_12 : decode prog_14_method_35_code 12 = .ok (.ifCond .ge 8, 3) := by decide +kernel
theorem d_Md_greater_15 : decode prog_14_method_35_code 15 = .ok (.iload_n 1, 1) := by decide +kernel
theorem d_Md_greater_16 : decode prog_14_method_35_code 16 = .ok (.ineg, 1) := by decide +kernel
theorem d_Md_greater_17 : decode prog_14_method_35_code 17 = .ok (.goto 4, 3) := by decide +kernel
theorem d_Md_greater_20 : decode prog_14_method_35_code 20 = .ok (.iload_n 1, 1) := by decide +kernel
theorem d_Md_greater_21 : decode prog_14_method_35_code 21 = .ok (.istore_n 3, 1) := by decide +kernel
theorem d_Md_greater_22 : decode prog_14_method_35_code 22 = .ok (.iload_n 2, 1) := by decide +kernel
theorem d_Md_greater_23 : decode prog_14_method_35_code 23 = .ok (.iload_n 3, 1) := by decide +kernel
theorem d_Md_greater_24 : decode prog_14_method_35_code 24 = .ok (.if_icmp .le 7, 3) := by decide +kernel
theorem d_Md_greater_27 : decode prog_14_method_35_code 27 = .ok (.iload_n 2, 1) := by decide +kernel
theorem d_Md_greater_28 : decode prog_14_method_35_code 28 = .ok (.goto 4, 3) := by decide +kernel
theorem d_Md_greater_31 : decode prog_14_method_35_code 31 = .ok (.iload_n 3, 1) := by decide +kernel
theorem d_Md_greater_32 : decode prog_14_method_35_code 32 = .ok (.ireturn, 1) := by decide +kernel
theorem d_Md_alignmentAt_0 : decode prog_14_method_36_code 0 = .ok (.iload_n 0, 1) := by decide +kernel
theorem d_Md_alignmentAt_1 : decode prog_14_method_36_code 1 = .ok (.bipush 7, 2) := by decide +kernel
theorem d_Md_alignmentAt_3 : decode prog_14_method_36_code 3 = .ok (.idiv, 1) := by decide +kernel
theorem d_Md_alignmentAt_4 : decode prog_14_method_36_code 4 = .ok (.iconst 2, 1) := by decide +kernel
theorem d_Md_alignmentAt_5 : decode prog_14_method_36_code 5 = .ok (.iadd, 1) := by decide +kernel
theorem d_Md_alignmentAt_6 : decode prog_14_method_36_code 6 = .ok (.istore_n 2, 1) := by decide +kernel
theorem d_Md_alignmentAt_7 : decode prog_14_method_36_code 7 = .ok (.iload_n 0, 1) := by decide +kernel
theorem d_Md_alignmentAt_8 : decode prog_14_method_36_code 8 = .ok (.bipush 32, 2) := by decide +kernel
theorem d_Md_alignmentAt_10 : decode prog_14_method_36_code 10 = .ok (.if_icmp .ne 8, 3) := by decide +kernel
theorem d_Md_alignmentAt_13 : decode prog_14_method_36_code 13 = .ok (.bipush 26, 2) := by decide +kernel
theorem d_Md_alignmentAt_15 : decode prog_14_method_36_code 15 = .ok (.goto 20, 3) := by decide +kernel
theorem d_Md_alignmentAt_18 : decode prog_14_method_36_code 18 = .ok (.iconst 2, 1) := by decide +kernel
theorem d_Md_alignmentAt_19 : decode prog_14_method_36_code 19 = .ok (.iconst 4, 1) := by decide +kernel
theorem d_Md_alignmentAt_20 : decode prog_14_method_36_code 20 = .ok (.iload_n 0, 1) := by decide +kernel
theorem d_Md_alignmentAt_21 : decode prog_14_method_36_code 21 = .ok (.imul, 1) := by decide +kernel
theorem d_Md_alignmentAt_22 : decode prog_14_method_36_code 22 = .ok (.iconst 2, 1) := by decide +kernel
theorem d_Md_alignmentAt_23 : decode prog_14_method_36_code 23 = .ok (.iload_n 2, 1) := by decide +kernel
theorem d_Md_alignmentAt_24 : decode prog_14_method_36_code 24 = .ok (.imul, 1) := by decide +kernel
theorem d_Md_alignmentAt_25 : decode prog_14_method_36_code 25 = .ok (.iadd, 1) := by decide +kernel
theorem d_Md_alignmentAt_26 : decode prog_14_method_36_code 26 = .ok (.iconst 1, 1) := by decide +kernel
theorem d_Md_alignmentAt_27 : decode prog_14_method_36_code 27 = .ok (.iadd, 1) := by decide +kernel
theorem d_Md_alignmentAt_28 : decode prog_14_method_36_code 28 = .ok (.iconst 2, 1) := by decide +kernel
theorem d_Md_alignmentAt_29 : decode prog_14_method_36_code 29 = .ok (.iload_n 2, 1) := by decide +kernel
theorem d_Md_alignmentAt_30 : decode prog_14_method_36_code 30 = .ok (.imul, 1) := by decide +kernel
theorem d_Md_alignmentAt_31 : decode prog_14_method_36_code 31 = .ok (.iconst 2, 1) := by decide +kernel
theorem d_Md_alignmentAt_32 : decode prog_14_method_36_code 32 = .ok (.isub, 1) := by decide +kernel
theorem d_Md_alignmentAt_33 : decode prog_14_method_36_code 33 = .ok (.idiv, 1) := by decide +kernel
theorem d_Md_alignmentAt_34 : decode prog_14_method_36_code 34 = .ok (.imul, 1) := by decide +kernel
theorem d_Md_alignmentAt_35 : decode prog_14_method_36_code 35 = .ok (.istore_n 3, 1) := by decide +kernel
theorem d_Md_alignmentAt_36 : decode prog_14_method_36_code 36 = .ok (.iload_n 1, 1) := by decide +kernel
theorem d_Md_alignmentAt_37 : decode prog_14_method_36_code 37 = .ok (.ifCond .ne 8, 3) := by decide +kernel
theorem d_Md_alignmentAt_40 : decode prog_14_method_36_code 40 = .ok (.bipush 6, 2) := by decide +kernel
theorem d_Md_alignmentAt_42 : decode prog_14_method_36_code 42 = .ok (.goto 18, 3) := by decide +kernel
theorem d_Md_alignmentAt_45 : decode prog_14_method_36_code 45 = .ok (.iload_n 0, 1) := by decide +kernel
theorem d_Md_alignmentAt_46 : decode prog_14_method_36_code 46 = .ok (.invokestatic 169, 3) := by decide +kernel
theorem d_Md_alignmentAt_49 : decode prog_14_method_36_code 49 = .ok (.bipush 7, 2) := by decide +kernel
theorem d_Md_alignmentAt_51 : decode prog_14_method_36_code 51 = .ok (.isub, 1) := by decide +kernel
theorem d_Md_alignmentAt_52 : decode prog_14_method_36_code 52 = .ok (.iload_n 3, 1) := by decide +kernel
theorem d_Md_alignmentAt_53 : decode prog_14_method_36_code 53 = .ok (.iload_n 2, 1) := by decide +kernel
theorem d_Md_alignmentAt_54 : decode prog_14_method_36_code 54 = .ok (.iconst 1, 1) := by decide +kernel
theorem d_Md_alignmentAt_55 : decode prog_14_method_36_code 55 = .ok (.isub, 1) := by decide +kernel
theorem d_Md_alignmentAt_56 : decode prog_14_method_36_code 56 = .ok (.iload_n 1, 1) := by decide +kernel
theorem d_Md_alignmentAt_57 : decode prog_14_method_36_code 57 = .ok (.isub, 1) := by decide +kernel
theorem d_Md_alignmentAt_58 : decode prog_14_method_36_code 58 = .ok (.imul, 1) := by decide +kernel
theorem d_Md_alignmentAt_59 : decode prog_14_method_36_code 59 = .ok (.isub, 1) := by decide +kernel
theorem d_Md_alignmentAt_60 : decode prog_14_method_36_code 60 = .ok (.ireturn, 1) := by decide +kernel
theorem d_Md_layForm_0 : decode prog_14_method_41_code 0 = .ok (.iload_n 1, 1) := by decide +kernel
theorem d_Md_layForm_1 : decode prog_14_method_41_code 1 = .ok (.invokestatic 175, 3) := by decide +kernel
theorem d_Md_layForm_4 : decode prog_14_method_41_code 4 = .ok (.istore_n 2, 1) := by decide +kernel
theorem d_Md_layForm_5 : decode prog_14_method_41_code 5 = .ok (.iconst 0, 1) := by decide +kernel
theorem d_Md_layForm_6 : decode prog_14_method_41_code 6 = .ok (.istore_n 3, 1) := by decide +kernel
theorem d_Md_layForm_7 : decode prog_14_method_41_code 7 = .ok (.iload_n 3, 1) := by decide +kernel
theorem d_Md_layForm_8 : decode prog_14_method_41_code 8 = .ok (.bipush 15, 2) := by decide +kernel
theorem d_Md_layForm_10 : decode prog_14_method_41_code 10 = .ok (.if_icmp .ge 81, 3) := by decide +kernel
theorem d_Md_layForm_13 : decode prog_14_method_41_code 13 = .ok (.aload_n 0, 1) := by decide +kernel
theorem d_Md_layForm_14 : decode prog_14_method_41_code 14 = .ok (.iload_n 3, 1) := by decide +kernel
theorem d_Md_layForm_15 : decode prog_14_method_41_code 15 = .ok (.iconst 0, 1) := by decide +kernel
theorem d_Md_layForm_16 : decode prog_14_method_41_code 16 = .ok (.aload_n 0, 1) := by decide +kernel
theorem d_Md_layForm_17 : decode prog_14_method_41_code 17 = .ok (.getfield 163, 3) := by decide +kernel
theorem d_Md_layForm_20 : decode prog_14_method_41_code 20 = .ok (.invokestatic 178, 3) := by decide +kernel
theorem d_Md_layForm_23 : decode prog_14_method_41_code 23 = .ok (.iload_n 3, 1) := by decide +kernel
theorem d_Md_layForm_24 : decode prog_14_method_41_code 24 = .ok (.iconst 0, 1) := by decide +kernel
theorem d_Md_layForm_25 : decode prog_14_method_41_code 25 = .ok (.aload_n 0, 1) := by decide +kernel
theorem d_Md_layForm_26 : decode prog_14_method_41_code 26 = .ok (.getfield 163, 3) := by decide +kernel
theorem d_Md_layForm_29 : decode prog_14_method_41_code 29 = .ok (.invokestatic 182, 3) := by decide +kernel
theorem d_Md_layForm_32 : decode prog_14_method_41_code 32 = .ok (.iload_n 2, 1) := by decide +kernel
theorem d_Md_layForm_33 : decode prog_14_method_41_code 33 = .ok (.iload_n 3, 1) := by decide +kernel
theorem d_Md_layForm_34 : decode prog_14_method_41_code 34 = .ok (.ishr, 1) := by decide +kernel
theorem d_Md_layForm_35 : decode prog_14_method_41_code 35 = .ok (.iconst 1, 1) := by decide +kernel
theorem d_Md_layForm_36 : decode prog_14_method_41_code 36 = .ok (.iand, 1) := by decide +kernel
theorem d_Md_layForm_37 : decode prog_14_method_41_code 37 = .ok (.iconst 1, 1) := by decide +kernel
theorem d_Md_layForm_38 : decode prog_14_method_41_code 38 = .ok (.if_icmp .ne 7, 3) := by decide +kernel
theorem d_Md_layForm_41 : decode prog_14_method_41_code 41 = .ok (.iconst 1, 1) := by decide +kernel
theorem d_Md_layForm_42 : decode prog_14_method_41_code 42 = .ok (.goto 4, 3) := by decide +kernel
theorem d_Md_layForm_45 : decode prog_14_method_41_code 45 = .ok (.iconst 0, 1) := by decide +kernel
theorem d_Md_layForm_46 : decode prog_14_method_41_code 46 = .ok (.invokevirtual 185, 3) := by decide +kernel
theorem d_Md_layForm_49 : decode prog_14_method_41_code 49 = .ok (.aload_n 0, 1) := by decide +kernel
theorem d_Md_layForm_50 : decode prog_14_method_41_code 50 = .ok (.iload_n 3, 1) := by decide +kernel
theorem d_Md_layForm_51 : decode prog_14_method_41_code 51 = .ok (.iconst 1, 1) := by decide +kernel
theorem d_Md_layForm_52 : decode prog_14_method_41_code 52 = .ok (.aload_n 0, 1) := by decide +kernel
theorem d_Md_layForm_53 : decode prog_14_method_41_code 53 = .ok (.getfield 163, 3) := by decide +kernel
theorem d_Md_layForm_56 : decode prog_14_method_41_code 56 = .ok (.invokestatic 178, 3) := by decide +kernel
theorem d_Md_layForm_59 : decode prog_14_method_41_code 59 = .ok (.iload_n 3, 1) := by decide +kernel
theorem d_Md_layForm_60 : decode prog_14_method_41_code 60 = .ok (.iconst 1, 1) := by decide +kernel
theorem d_Md_layForm_61 : decode prog_14_method_41_code 61 = .ok (.aload_n 0, 1) := by decide +kernel
theorem d_Md_layForm_62 : decode prog_14_method_41_code 62 = .ok (.getfield 163, 3) := by decide +kernel
theorem d_Md_layForm_65 : decode prog_14_method_41_code 65 = .ok (.invokestatic 182, 3) := by decide +kernel
theorem d_Md_layForm_68 : decode prog_14_method_41_code 68 = .ok (.iload_n 2, 1) := by decide +kernel
theorem d_Md_layForm_69 : decode prog_14_method_41_code 69 = .ok (.iload_n 3, 1) := by decide +kernel
theorem d_Md_layForm_70 : decode prog_14_method_41_code 70 = .ok (.ishr, 1) := by decide +kernel
theorem d_Md_layForm_71 : decode prog_14_method_41_code 71 = .ok (.iconst 1, 1) := by decide +kernel
theorem d_Md_layForm_72 : decode prog_14_method_41_code 72 = .ok (.iand, 1) := by decide +kernel
theorem d_Md_layForm_73 : decode prog_14_method_41_code 73 = .ok (.iconst 1, 1) := by decide +kernel
theorem d_Md_layForm_74 : decode prog_14_method_41_code 74 = .ok (.if_icmp .ne 7, 3) := by decide +kernel
theorem d_Md_layForm_77 : decode prog_14_method_41_code 77 = .ok (.iconst 1, 1) := by decide +kernel
theorem d_Md_layForm_78 : decode prog_14_method_41_code 78 = .ok (.goto 4, 3) := by decide +kernel
theorem d_Md_layForm_81 : decode prog_14_method_41_code 81 = .ok (.iconst 0, 1) := by decide +kernel
theorem d_Md_layForm_82 : decode prog_14_method_41_code 82 = .ok (.invokevirtual 185, 3) := by decide +kernel
theorem d_Md_layForm_85 : decode prog_14_method_41_code 85 = .ok (.iinc 3 1, 3) := by decide +kernel
theorem d_Md_layForm_88 : decode prog_14_method_41_code 88 = .ok (.goto (-81), 3) := by decide +kernel
theorem d_Md_layForm_91 : decode prog_14_method_41_code 91 = .ok (.return_, 1) := by decide +kernel
theorem d_Md_formWord_0 : decode prog_14_method_38_code 0 = .ok (.iload_n 0, 1) := by decide +kernel
theorem d_Md_formWord_1 : decode prog_14_method_38_code 1 = .ok (.bipush 10, 2) := by decide +kernel
theorem d_Md_formWord_3 : decode prog_14_method_38_code 3 = .ok (.sipush 1335, 3) := by decide +kernel
theorem d_Md_formWord_6 : decode prog_14_method_38_code 6 = .ok (.invokestatic 172, 3) := by decide +kernel
theorem d_Md_formWord_9 : decode prog_14_method_38_code 9 = .ok (.sipush 21522, 3) := by decide +kernel
theorem d_Md_formWord_12 : decode prog_14_method_38_code 12 = .ok (.ixor, 1) := by decide +kernel
theorem d_Md_formWord_13 : decode prog_14_method_38_code 13 = .ok (.ireturn, 1) := by decide +kernel
theorem d_Md_shortWord_0 : decode prog_14_method_37_code 0 = .ok (.iload_n 0, 1) := by decide +kernel
theorem d_Md_shortWord_1 : decode prog_14_method_37_code 1 = .ok (.iload_n 1, 1) := by decide +kernel
theorem d_Md_shortWord_2 : decode prog_14_method_37_code 2 = .ok (.ishl, 1) := by decide +kernel
theorem d_Md_shortWord_3 : decode prog_14_method_37_code 3 = .ok (.istore_n 3, 1) := by decide +kernel
theorem d_Md_shortWord_4 : decode prog_14_method_37_code 4 = .ok (.bipush 17, 2) := by decide +kernel
theorem d_Md_shortWord_6 : decode prog_14_method_37_code 6 = .ok (.istore 4, 2) := by decide +kernel
theorem d_Md_shortWord_8 : decode prog_14_method_37_code 8 = .ok (.iload 4, 2) := by decide +kernel
theorem d_Md_shortWord_10 : decode prog_14_method_37_code 10 = .ok (.iload_n 1, 1) := by decide +kernel
theorem d_Md_shortWord_11 : decode prog_14_method_37_code 11 = .ok (.if_icmp .lt 32, 3) := by decide +kernel
theorem d_Md_shortWord_14 : decode prog_14_method_37_code 14 = .ok (.iload_n 3, 1) := by decide +kernel
theorem d_Md_shortWord_15 : decode prog_14_method_37_code 15 = .ok (.iload 4, 2) := by decide +kernel
theorem d_Md_shortWord_17 : decode prog_14_method_37_code 17 = .ok (.ishr, 1) := by decide +kernel
theorem d_Md_shortWord_18 : decode prog_14_method_37_code 18 = .ok (.iconst 1, 1) := by decide +kernel
theorem d_Md_shortWord_19 : decode prog_14_method_37_code 19 = .ok (.iand, 1) := by decide +kernel
theorem d_Md_shortWord_20 : decode prog_14_method_37_code 20 = .ok (.iconst 1, 1) := by decide +kernel
theorem d_Md_shortWord_21 : decode prog_14_method_37_code 21 = .ok (.if_icmp .ne 14, 3) := by decide +kernel
theorem d_Md_shortWord_24 : decode prog_14_method_37_code 24 = .ok (.iload_n 3, 1) := by decide +kernel
theorem d_Md_shortWord_25 : decode prog_14_method_37_code 25 = .ok (.iload_n 2, 1) := by decide +kernel
theorem d_Md_shortWord_26 : decode prog_14_method_37_code 26 = .ok (.iload 4, 2) := by decide +kernel
theorem d_Md_shortWord_28 : decode prog_14_method_37_code 28 = .ok (.iload_n 1, 1) := by decide +kernel
theorem d_Md_shortWord_29 : decode prog_14_method_37_code 29 = .ok (.isub, 1) := by decide +kernel
theorem d_Md_shortWord_30 : decode prog_14_method_37_code 30 = .ok (.ishl, 1) := by decide +kernel
theorem d_Md_shortWord_31 : decode prog_14_method_37_code 31 = .ok (.ixor, 1) := by decide +kernel
theorem d_Md_shortWord_32 : decode prog_14_method_37_code 32 = .ok (.goto 4, 3) := by decide +kernel
theorem d_Md_shortWord_35 : decode prog_14_method_37_code 35 = .ok (.iload_n 3, 1) := by decide +kernel
theorem d_Md_shortWord_36 : decode prog_14_method_37_code 36 = .ok (.istore_n 3, 1) := by decide +kernel
theorem d_Md_shortWord_37 : decode prog_14_method_37_code 37 = .ok (.iinc 4 (-1), 3) := by decide +kernel
theorem d_Md_shortWord_40 : decode prog_14_method_37_code 40 = .ok (.goto (-32), 3) := by decide +kernel
theorem d_Md_shortWord_43 : decode prog_14_method_37_code 43 = .ok (.iload_n 0, 1) := by decide +kernel
theorem d_Md_shortWord_44 : decode prog_14_method_37_code 44 = .ok (.iload_n 1, 1) := by decide +kernel
theorem d_Md_shortWord_45 : decode prog_14_method_37_code 45 = .ok (.ishl, 1) := by decide +kernel
theorem d_Md_shortWord_46 : decode prog_14_method_37_code 46 = .ok (.iload_n 3, 1) := by decide +kernel
theorem d_Md_shortWord_47 : decode prog_14_method_37_code 47 = .ok (.ior, 1) := by decide +kernel
theorem d_Md_shortWord_48 : decode prog_14_method_37_code 48 = .ok (.ireturn, 1) := by decide +kernel
theorem d_Md_formX_0 : decode prog_14_method_39_code 0 = .ok (.iload_n 1, 1) := by decide +kernel
theorem d_Md_formX_1 : decode prog_14_method_39_code 1 = .ok (.ifCond .eq 20, 3) := by decide +kernel
theorem d_Md_formX_4 : decode prog_14_method_39_code 4 = .ok (.iload_n 0, 1) := by decide +kernel
theorem d_Md_formX_5 : decode prog_14_method_39_code 5 = .ok (.bipush 8, 2) := by decide +kernel
theorem d_Md_formX_7 : decode prog_14_method_39_code 7 = .ok (.if_icmp .ge 11, 3) := by decide +kernel
theorem d_Md_formX_10 : decode prog_14_method_39_code 10 = .ok (.iload_n 2, 1) := by decide +kernel
theorem d_Md_formX_11 : decode prog_14_method_39_code 11 = .ok (.iconst 1, 1) := by decide +kernel
theorem d_Md_formX_12 : decode prog_14_method_39_code 12 = .ok (.isub, 1) := by decide +kernel
theorem d_Md_formX_13 : decode prog_14_method_39_code 13 = .ok (.iload_n 0, 1) := by decide +kernel
theorem d_Md_formX_14 : decode prog_14_method_39_code 14 = .ok (.isub, 1) := by decide +kernel
theorem d_Md_formX_15 : decode prog_14_method_39_code 15 = .ok (.goto 5, 3) := by decide +kernel
theorem d_Md_formX_18 : decode prog_14_method_39_code 18 = .ok (.bipush 8, 2) := by decide +kernel
theorem d_Md_formX_20 : decode prog_14_method_39_code 20 = .ok (.ireturn, 1) := by decide +kernel
theorem d_Md_formX_21 : decode prog_14_method_39_code 21 = .ok (.iload_n 0, 1) := by decide +kernel
theorem d_Md_formX_22 : decode prog_14_method_39_code 22 = .ok (.bipush 8, 2) := by decide +kernel
theorem d_Md_formX_24 : decode prog_14_method_39_code 24 = .ok (.if_icmp .ge 8, 3) := by decide +kernel
theorem d_Md_formX_27 : decode prog_14_method_39_code 27 = .ok (.bipush 8, 2) := by decide +kernel
theorem d_Md_formX_29 : decode prog_14_method_39_code 29 = .ok (.goto 18, 3) := by decide +kernel
theorem d_Md_formX_32 : decode prog_14_method_39_code 32 = .ok (.iload_n 0, 1) := by decide +kernel
theorem d_Md_formX_33 : decode prog_14_method_39_code 33 = .ok (.bipush 8, 2) := by decide +kernel
theorem d_Md_formX_35 : decode prog_14_method_39_code 35 = .ok (.if_icmp .ne 8, 3) := by decide +kernel
theorem d_Md_formX_38 : decode prog_14_method_39_code 38 = .ok (.bipush 7, 2) := by decide +kernel
theorem d_Md_formX_40 : decode prog_14_method_39_code 40 = .ok (.goto 7, 3) := by decide +kernel
theorem d_Md_formX_43 : decode prog_14_method_39_code 43 = .ok (.bipush 14, 2) := by decide +kernel
theorem d_Md_formX_45 : decode prog_14_method_39_code 45 = .ok (.iload_n 0, 1) := by decide +kernel
theorem d_Md_formX_46 : decode prog_14_method_39_code 46 = .ok (.isub, 1) := by decide +kernel
theorem d_Md_formX_47 : decode prog_14_method_39_code 47 = .ok (.ireturn, 1) := by decide +kernel
theorem d_Md_formY_0 : decode prog_14_method_40_code 0 = .ok (.iload_n 1, 1) := by decide +kernel
theorem d_Md_formY_1 : decode prog_14_method_40_code 1 = .ok (.ifCond .eq 21, 3) := by decide +kernel
theorem d_Md_formY_4 : decode prog_14_method_40_code 4 = .ok (.iload_n 0, 1) := by decide +kernel
theorem d_Md_formY_5 : decode prog_14_method_40_code 5 = .ok (.bipush 8, 2) := by decide +kernel
theorem d_Md_formY_7 : decode prog_14_method_40_code 7 = .ok (.if_icmp .ge 8, 3) := by decide +kernel
theorem d_Md_formY_10 : decode prog_14_method_40_code 10 = .ok (.bipush 8, 2) := by decide +kernel
theorem d_Md_formY_12 : decode prog_14_method_40_code 12 = .ok (.goto 9, 3) := by decide +kernel
theorem d_Md_formY_15 : decode prog_14_method_40_code 15 = .ok (.iload_n 2, 1) := by decide +kernel
theorem d_Md_formY_16 : decode prog_14_method_40_code 16 = .ok (.bipush 15, 2) := by decide +kernel
theorem d_Md_formY_18 : decode prog_14_method_40_code 18 = .ok (.isub, 1) := by decide +kernel
theorem d_Md_formY_19 : decode prog_14_method_40_code 19 = .ok (.iload_n 0, 1) := by decide +kernel
theorem d_Md_formY_20 : decode prog_14_method_40_code 20 = .ok (.iadd, 1) := by decide +kernel
theorem d_Md_formY_21 : decode prog_14_method_40_code 21 = .ok (.ireturn, 1) := by decide +kernel
theorem d_Md_formY_22 : decode prog_14_method_40_code 22 = .ok (.iload_n 0, 1) := by decide +kernel
theorem d_Md_formY_23 : decode prog_14_method_40_code 23 = .ok (.bipush 6, 2) := by decide +kernel
theorem d_Md_formY_25 : decode prog_14_method_40_code 25 = .ok (.if_icmp .ge 7, 3) := by decide +kernel
theorem d_Md_formY_28 : decode prog_14_method_40_code 28 = .ok (.iload_n 0, 1) := by decide +kernel
theorem d_Md_formY_29 : decode prog_14_method_40_code 29 = .ok (.goto 17, 3) := by decide +kernel
theorem d_Md_formY_32 : decode prog_14_method_40_code 32 = .ok (.iload_n 0, 1) := by decide +kernel
theorem d_Md_formY_33 : decode prog_14_method_40_code 33 = .ok (.bipush 8, 2) := by decide +kernel
theorem d_Md_formY_35 : decode prog_14_method_40_code 35 = .ok (.if_icmp .ge 9, 3) := by decide +kernel
theorem d_Md_formY_38 : decode prog_14_method_40_code 38 = .ok (.iload_n 0, 1) := by decide +kernel
theorem d_Md_formY_39 : decode prog_14_method_40_code 39 = .ok (.iconst 1, 1) := by decide +kernel
theorem d_Md_formY_40 : decode prog_14_method_40_code 40 = .ok (.iadd, 1) := by decide +kernel
theorem d_Md_formY_41 : decode prog_14_method_40_code 41 = .ok (.goto 5, 3) := by decide +kernel
theorem d_Md_formY_44 : decode prog_14_method_40_code 44 = .ok (.bipush 8, 2) := by decide +kernel
theorem d_Md_formY_46 : decode prog_14_method_40_code 46 = .ok (.ireturn, 1) := by decide +kernel
theorem d_Md_formNumber_0 : decode prog_14_method_49_code 0 = .ok (.iload_n 0, 1) := by decide +kernel
theorem d_Md_formNumber_1 : decode prog_14_method_49_code 1 = .ok (.ifCond .ne 7, 3) := by decide +kernel
theorem d_Md_formNumber_4 : decode prog_14_method_49_code 4 = .ok (.iconst 1, 1) := by decide +kernel
theorem d_Md_formNumber_5 : decode prog_14_method_49_code 5 = .ok (.goto 22, 3) := by decide +kernel
theorem d_Md_formNumber_8 : decode prog_14_method_49_code 8 = .ok (.iload_n 0, 1) := by decide +kernel
theorem d_Md_formNumber_9 : decode prog_14_method_49_code 9 = .ok (.iconst 1, 1) := by decide +kernel
theorem d_Md_formNumber_10 : decode prog_14_method_49_code 10 = .ok (.if_icmp .ne 7, 3) := by decide +kernel
theorem d_Md_formNumber_13 : decode prog_14_method_49_code 13 = .ok (.iconst 0, 1) := by decide +kernel
theorem d_Md_formNumber_14 : decode prog_14_method_49_code 14 = .ok (.goto 13, 3) := by decide +kernel
theorem d_Md_formNumber_17 : decode prog_14_method_49_code 17 = .ok (.iload_n 0, 1) := by decide +kernel
theorem d_Md_formNumber_18 : decode prog_14_method_49_code 18 = .ok (.iconst 2, 1) := by decide +kernel
theorem d_Md_formNumber_19 : decode prog_14_method_49_code 19 = .ok (.if_icmp .ne 7, 3) := by decide +kernel
theorem d_Md_formNumber_22 : decode prog_14_method_49_code 22 = .ok (.iconst 3, 1) := by decide +kernel
theorem d_Md_formNumber_23 : decode prog_14_method_49_code 23 = .ok (.goto 4, 3) := by decide +kernel
theorem d_Md_formNumber_26 : decode prog_14_method_49_code 26 = .ok (.iconst 2, 1) := by decide +kernel
theorem d_Md_formNumber_27 : decode prog_14_method_49_code 27 = .ok (.istore_n 2, 1) := by decide +kernel
theorem d_Md_formNumber_28 : decode prog_14_method_49_code 28 = .ok (.bipush 8, 2) := by decide +kernel
theorem d_Md_formNumber_30 : decode prog_14_method_49_code 30 = .ok (.iload_n 2, 1) := by decide +kernel
theorem d_Md_formNumber_31 : decode prog_14_method_49_code 31 = .ok (.imul, 1) := by decide +kernel
theorem d_Md_formNumber_32 : decode prog_14_method_49_code 32 = .ok (.iload_n 1, 1) := by decide +kernel
theorem d_Md_formNumber_33 : decode prog_14_method_49_code 33 = .ok (.iadd, 1) := by decide +kernel
theorem d_Md_formNumber_34 : decode prog_14_method_49_code 34 = .ok (.ireturn, 1) := by decide +kernel
theorem d_Md_goThrough_0 : decode prog_14_method_45_code 0 = .ok (.iconst 0, 1) := by decide +kernel
theorem d_Md_goThrough_1 : decode prog_14_method_45_code 1 = .ok (.istore 4, 2) := by decide +kernel
theorem d_Md_goThrough_3 : decode prog_14_method_45_code 3 = .ok (.iconst 1, 1) := by decide +kernel
theorem d_Md_goThrough_4 : decode prog_14_method_45_code 4 = .ok (.istore 5, 2) := by decide +kernel
theorem d_Md_goThrough_6 : decode prog_14_method_45_code 6 = .ok (.aload_n 0, 1) := by decide +kernel
theorem d_Md_goThrough_7 : decode prog_14_method_45_code 7 = .ok (.getfield 163, 3) := by decide +kernel
theorem d_Md_goThrough_10 : decode prog_14_method_45_code 10 = .ok (.iconst 1, 1) := by decide +kernel
theorem d_Md_goThrough_11 : decode prog_14_method_45_code 11 = .ok (.isub, 1) := by decide +kernel
theorem d_Md_goThrough_12 : decode prog_14_method_45_code 12 = .ok (.istore 6, 2) := by decide +kernel
theorem d_Md_goThrough_14 : decode prog_14_method_45_code 14 = .ok (.iload 6, 2) := by decide +kernel
theorem d_Md_goThrough_16 : decode prog_14_method_45_code 16 = .ok (.ifCond .le 252, 3) := by decide +kernel
theorem d_Md_goThrough_19 : decode prog_14_method_45_code 19 = .ok (.iload 6, 2) := by decide +kernel
theorem d_Md_goThrough_21 : decode prog_14_method_45_code 21 = .ok (.bipush 6, 2) := by decide +kernel
theorem d_Md_goThrough_23 : decode prog_14_method_45_code 23 = .ok (.if_icmp .ne 7, 3) := by decide +kernel
theorem d_Md_goThrough_26 : decode prog_14_method_45_code 26 = .ok (.iconst 5, 1) := by decide +kernel
theorem d_Md_goThrough_27 : decode prog_14_method_45_code 27 = .ok (.goto 5, 3) := by decide +kernel
theorem d_Md_goThrough_30 : decode prog_14_method_45_code 30 = .ok (.iload 6, 2) := by decide +kernel
theorem d_Md_goThrough_32 : decode prog_14_method_45_code 32 = .ok (.istore 6, 2) := by decide +kernel
theorem d_Md_goThrough_34 : decode prog_14_method_45_code 34 = .ok (.iconst 0, 1) := by decide +kernel
theorem d_Md_goThrough_35 : decode prog_14_method_45_code 35 = .ok (.istore 7, 2) := by decide +kernel
theorem d_Md_goThrough_37 : decode prog_14_method_45_code 37 = .ok (.iload 7, 2) := by decide +kernel
theorem d_Md_goThrough_39 : decode prog_14_method_45_code 39 = .ok (.iconst 2, 1) := by decide +kernel
theorem d_Md_goThrough_40 : decode prog_14_method_45_code 40 = .ok (.aload_n 0, 1) := by decide +kernel
theorem d_Md_goThrough_41 : decode prog_14_method_45_code 41 = .ok (.getfield 163, 3) := by decide +kernel
theorem d_Md_goThrough_44 : decode prog_14_method_45_code 44 = .ok (.imul, 1) := by decide +kernel
theorem d_Md_goThrough_45 : decode prog_14_method_45_code 45 = .ok (.if_icmp .ge 205, 3) := by decide +kernel
theorem d_Md_goThrough_48 : decode prog_14_method_45_code 48 = .ok (.iload 5, 2) := by decide +kernel
theorem d_Md_goThrough_50 : decode prog_14_method_45_code 50 = .ok (.ifCond .eq 17, 3) := by decide +kernel
theorem d_Md_goThrough_53 : decode prog_14_method_45_code 53 = .ok (.aload_n 0, 1) := by decide +kernel
theorem d_Md_goThrough_54 : decode prog_14_method_45_code 54 = .ok (.getfield 163, 3) := by decide +kernel
theorem d_Md_goThrough_57 : decode prog_14_method_45_code 57 = .ok (.iconst 1, 1) := by decide +kernel
theorem d_Md_goThrough_58 : decode prog_14_method_45_code 58 = .ok (.isub, 1) := by decide +kernel
theorem d_Md_goThrough_59 : decode prog_14_method_45_code 59 = .ok (.iload 7, 2) := by decide +kernel
theorem d_Md_goThrough_61 : decode prog_14_method_45_code 61 = .ok (.iconst 2, 1) := by decide +kernel
theorem d_Md_goThrough_62 : decode prog_14_method_45_code 62 = .ok (.idiv, 1) := by decide +kernel
theorem d_Md_goThrough_63 : decode prog_14_method_45_code 63 = .ok (.isub, 1) := by decide +kernel
theorem d_Md_goThrough_64 : decode prog_14_method_45_code 64 = .ok (.goto 7, 3) := by decide +kernel
theorem d_Md_goThrough_67 : decode prog_14_method_45_code 67 = .ok (.iload 7, 2) := by decide +kernel
theorem d_Md_goThrough_69 : decode prog_14_method_45_code 69 = .ok (.iconst 2, 1) := by decide +kernel
theorem d_Md_goThrough_70 : decode prog_14_method_45_code 70 = .ok (.idiv, 1) := by decide +kernel
theorem d_Md_goThrough_71 : decode prog_14_method_45_code 71 = .ok (.istore 8, 2) := by decide +kernel
theorem d_Md_goThrough_73 : decode prog_14_method_45_code 73 = .ok (.iload 6, 2) := by decide +kernel
theorem d_Md_goThrough_75 : decode prog_14_method_45_code 75 = .ok (.iload 7, 2) := by decide +kernel
theorem d_Md_goThrough_77 : decode prog_14_method_45_code 77 = .ok (.iconst 2, 1) := by decide +kernel
theorem d_Md_goThrough_78 : decode prog_14_method_45_code 78 = .ok (.irem, 1) := by decide +kernel
theorem d_Md_goThrough_79 : decode prog_14_method_45_code 79 = .ok (.isub, 1) := by decide +kernel
theorem d_Md_goThrough_80 : decode prog_14_method_45_code 80 = .ok (.istore 9, 2) := by decide +kernel
theorem d_Md_goThrough_82 : decode prog_14_method_45_code 82 = .ok (.aload_n 0, 1) := by decide +kernel
theorem d_Md_goThrough_83 : decode prog_14_method_45_code 83 = .ok (.iload 9, 2) := by decide +kernel
theorem d_Md_goThrough_85 : decode prog_14_method_45_code 85 = .ok (.iload 8, 2) := by decide +kernel
theorem d_Md_goThrough_87 : decode prog_14_method_45_code 87 = .ok (.invokevirtual 166, 3) := by decide +kernel
theorem d_Md_goThrough_90 : decode prog_14_method_45_code 90 = .ok (.istore 10, 2) := by decide +kernel
theorem d_Md_goThrough_92 : decode prog_14_method_45_code 92 = .ok (.aload_n 0, 1) := by decide +kernel
theorem d_Md_goThrough_93 : decode prog_14_method_45_code 93 = .ok (.getfield 22, 3) := by decide +kernel
theorem d_Md_goThrough_96 : decode prog_14_method_45_code 96 = .ok (.iload 10, 2) := by decide +kernel
theorem d_Md_goThrough_98 : decode prog_14_method_45_code 98 = .ok (.iaload, 1) := by decide +kernel
theorem d_Md_goThrough_99 : decode prog_14_method_45_code 99 = .ok (.ifCond .ne 145, 3) := by decide +kernel
theorem d_Md_goThrough_102 : decode prog_14_method_45_code 102 = .ok (.iload_n 1, 1) := by decide +kernel
theorem d_Md_goThrough_103 : decode prog_14_method_45_code 103 = .ok (.iload 9, 2) := by decide +kernel
theorem d_Md_goThrough_105 : decode prog_14_method_45_code 105 = .ok (.iload 8, 2) := by decide +kernel
theorem d_Md_goThrough_107 : decode prog_14_method_45_code 107 = .ok (.invokestatic 202, 3) := by decide +kernel
theorem d_Md_goThrough_110 : decode prog_14_method_45_code 110 = .ok (.ifCond .eq 7, 3) := by decide +kernel
theorem d_Md_goThrough_113 : decode prog_14_method_45_code 113 = .ok (.iconst 1, 1) := by decide +kernel
theorem d_Md_goThrough_114 : decode prog_14_method_45_code 114 = .ok (.goto 4, 3) := by decide +kernel
theorem d_Md_goThrough_117 : decode prog_14_method_45_code 117 = .ok (.iconst 0, 1) := by decide +kernel
theorem d_Md_goThrough_118 : decode prog_14_method_45_code 118 = .ok (.istore 11, 2) := by decide +kernel
theorem d_Md_goThrough_120 : decode prog_14_method_45_code 120 = .ok (.iload_n 2, 1) := by decide +kernel
theorem d_Md_goThrough_121 : decode prog_14_method_45_code 121 = .ok (.ifCond .eq 68, 3) := by decide +kernel
theorem d_Md_goThrough_124 : decode prog_14_method_45_code 124 = .ok (.iload 4, 2) := by decide +kernel
theorem d_Md_goThrough_126 : decode prog_14_method_45_code 126 = .ok (.bipush 8, 2) := by decide +kernel
theorem d_Md_goThrough_128 : decode prog_14_method_45_code 128 = .ok (.iload_n 3, 1) := by decide +kernel
theorem d_Md_goThrough_129 : decode prog_14_method_45_code 129 = .ok (.imul, 1) := by decide +kernel
theorem d_Md_goThrough_130 : decode prog_14_method_45_code 130 = .ok (.if_icmp .ge 59, 3) := by decide +kernel
theorem d_Md_goThrough_133 : decode prog_14_method_45_code 133 = .ok (.aload_n 0, 1) := by decide +kernel
theorem d_Md_goThrough_134 : decode prog_14_method_45_code 134 = .ok (.getfield 43, 3) := by decide +kernel
theorem d_Md_goThrough_137 : decode prog_14_method_45_code 137 = .ok (.iload 4, 2) := by decide +kernel
theorem d_Md_goThrough_139 : decode prog_14_method_45_code 139 = .ok (.bipush 8, 2) := by decide +kernel
theorem d_Md_goThrough_141 : decode prog_14_method_45_code 141 = .ok (.idiv, 1) := by decide +kernel
theorem d_Md_goThrough_142 : decode prog_14_method_45_code 142 = .ok (.aload_n 0, 1) := by decide +kernel
theorem d_Md_goThrough_143 : decode prog_14_method_45_code 143 = .ok (.getfield 43, 3) := by decide +kernel
theorem d_Md_goThrough_146 : decode prog_14_method_45_code 146 = .ok (.iload 4, 2) := by decide +kernel
theorem d_Md_goThrough_148 : decode prog_14_method_45_code 148 = .ok (.bipush 8, 2) := by decide +kernel
theorem d_Md_goThrough_150 : decode prog_14_method_45_code 150 = .ok (.idiv, 1) := by decide +kernel
theorem d_Md_goThrough_151 : decode prog_14_method_45_code 151 = .ok (.iaload, 1) := by decide +kernel
theorem d_Md_goThrough_152 : decode prog_14_method_45_code 152 = .ok (.iconst 1, 1) := by decide +kernel
theorem d_Md_goThrough_153 : decode prog_14_method_45_code 153 = .ok (.bipush 7, 2) := by decide +kernel
theorem d_Md_goThrough_155 : decode prog_14_method_45_code 155 = .ok (.iload 4, 2) := by decide +kernel
theorem d_Md_goThrough_157 : decode prog_14_method_45_code 157 = .ok (.bipush 8, 2) := by decide +kernel
theorem d_Md_goThrough_159 : decode prog_14_method_45_code 159 = .ok (.irem, 1) := by decide +kernel
theorem d_Md_goThrough_160 : decode prog_14_method_45_code 160 = .ok (.isub, 1) := by decide +kernel
theorem d_Md_goThrough_161 : decode prog_14_method_45_code 161 = .ok (.ishl, 1) := by decide +kernel
theorem d_Md_goThrough_162 : decode prog_14_method_45_code 162 = .ok (.iconst (-1), 1) := by decide +kernel
theorem d_Md_goThrough_163 : decode prog_14_method_45_code 163 = .ok (.ixor, 1) := by decide +kernel
theorem d_Md_goThrough_164 : decode prog_14_method_45_code 164 = .ok (.iand, 1) := by decide +kernel
theorem d_Md_goThrough_165 : decode prog_14_method_45_code 165 = .ok (.aload_n 0, 1) := by decide +kernel
theorem d_Md_goThrough_166 : decode prog_14_method_45_code 166 = .ok (.getfield 19, 3) := by decide +kernel
theorem d_Md_goThrough_169 : decode prog_14_method_45_code 169 = .ok (.iload 10, 2) := by decide +kernel
theorem d_Md_goThrough_171 : decode prog_14_method_45_code 171 = .ok (.iaload, 1) := by decide +kernel
theorem d_Md_goThrough_172 : decode prog_14_method_45_code 172 = .ok (.iload 11, 2) := by decide +kernel
theorem d_Md_goThrough_174 : decode prog_14_method_45_code 174 = .ok (.ixor, 1) := by decide +kernel
theorem d_Md_goThrough_175 : decode prog_14_method_45_code 175 = .ok (.bipush 7, 2) := by decide +kernel
theorem d_Md_goThrough_177 : decode prog_14_method_45_code 177 = .ok (.iload 4, 2) := by decide +kernel
theorem d_Md_goThrough_179 : decode prog_14_method_45_code 179 = .ok (.bipush 8, 2) := by decide +kernel
theorem d_Md_goThrough_181 : decode prog_14_method_45_code 181 = .ok (.irem, 1) := by decide +kernel
theorem d_Md_goThrough_182 : decode prog_14_method_45_code 182 = .ok (.isub, 1) := by decide +kernel
theorem d_Md_goThrough_183 : decode prog_14_method_45_code 183 = .ok (.ishl, 1) := by decide +kernel
theorem d_Md_goThrough_184 : decode prog_14_method_45_code 184 = .ok (.ior, 1) := by decide +kernel
theorem d_Md_goThrough_185 : decode prog_14_method_45_code 185 = .ok (.iastore, 1) := by decide +kernel
theorem d_Md_goThrough_186 : decode prog_14_method_45_code 186 = .ok (.goto 55, 3) := by decide +kernel
theorem d_Md_goThrough_189 : decode prog_14_method_45_code 189 = .ok (.iload_n 2, 1) := by decide +kernel
theorem d_Md_goThrough_190 : decode prog_14_method_45_code 190 = .ok (.ifCond .ne 51, 3) := by decide +kernel
theorem d_Md_goThrough_193 : decode prog_14_method_45_code 193 = .ok (.iload 4, 2) := by decide +kernel
theorem d_Md_goThrough_195 : decode prog_14_method_45_code 195 = .ok (.bipush 8, 2) := by decide +kernel
theorem d_Md_goThrough_197 : decode prog_14_method_45_code 197 = .ok (.iload_n 3, 1) := by decide +kernel
theorem d_Md_goThrough_198 : decode prog_14_method_45_code 198 = .ok (.imul, 1) := by decide +kernel
theorem d_Md_goThrough_199 : decode prog_14_method_45_code 199 = .ok (.if_icmp .ge 27, 3) := by decide +kernel
theorem d_Md_goThrough_202 : decode prog_14_method_45_code 202 = .ok (.aload_n 0, 1) := by decide +kernel
theorem d_Md_goThrough_203 : decode prog_14_method_45_code 203 = .ok (.getfield 43, 3) := by decide +kernel
theorem d_Md_goThrough_206 : decode prog_14_method_45_code 206 = .ok (.iload 4, 2) := by decide +kernel
theorem d_Md_goThrough_208 : decode prog_14_method_45_code 208 = .ok (.bipush 8, 2) := by decide +kernel
theorem d_Md_goThrough_210 : decode prog_14_method_45_code 210 = .ok (.idiv, 1) := by decide +kernel
theorem d_Md_goThrough_211 : decode prog_14_method_45_code 211 = .ok (.iaload, 1) := by decide +kernel
theorem d_Md_goThrough_212 : decode prog_14_method_45_code 212 = .ok (.bipush 7, 2) := by decide +kernel
theorem d_Md_goThrough_214 : decode prog_14_method_45_code 214 = .ok (.iload 4, 2) := by decide +kernel
theorem d_Md_goThrough_216 : decode prog_14_method_45_code 216 = .ok (.bipush 8, 2) := by decide +kernel
theorem d_Md_goThrough_218 : decode prog_14_method_45_code 218 = .ok (.irem, 1) := by decide +kernel
theorem d_Md_goThrough_219 : decode prog_14_method_45_code 219 = .ok (.isub, 1) := by decide +kernel
theorem d_Md_goThrough_220 : decode prog_14_method_45_code 220 = .ok (.ishr, 1) := by decide +kernel
theorem d_Md_goThrough_221 : decode prog_14_method_45_code 221 = .ok (.iconst 1, 1) := by decide +kernel
theorem d_Md_goThrough_222 : decode prog_14_method_45_code 222 = .ok (.iand, 1) := by decide +kernel
theorem d_Md_goThrough_223 : decode prog_14_method_45_code 223 = .ok (.goto 4, 3) := by decide +kernel
theorem d_Md_goThrough_226 : decode prog_14_method_45_code 226 = .ok (.iconst 0, 1) := by decide +kernel
theorem d_Md_goThrough_227 : decode prog_14_method_45_code 227 = .ok (.istore 12, 2) := by decide +kernel
theorem d_Md_goThrough_229 : decode prog_14_method_45_code 229 = .ok (.aload_n 0, 1) := by decide +kernel
theorem d_Md_goThrough_230 : decode prog_14_method_45_code 230 = .ok (.getfield 19, 3) := by decide +kernel
theorem d_Md_goThrough_233 : decode prog_14_method_45_code 233 = .ok (.iload 10, 2) := by decide +kernel
theorem d_Md_goThrough_235 : decode prog_14_method_45_code 235 = .ok (.iload 12, 2) := by decide +kernel
theorem d_Md_goThrough_237 : decode prog_14_method_45_code 237 = .ok (.iload 11, 2) := by decide +kernel
theorem d_Md_goThrough_239 : decode prog_14_method_45_code 239 = .ok (.ixor, 1) := by decide +kernel
theorem d_Md_goThrough_240 : decode prog_14_method_45_code 240 = .ok (.iastore, 1) := by decide +kernel
theorem d_Md_goThrough_241 : decode prog_14_method_45_code 241 = .ok (.iinc 4 1, 3) := by decide +kernel
theorem d_Md_goThrough_244 : decode prog_14_method_45_code 244 = .ok (.iinc 7 1, 3) := by decide +kernel
theorem d_Md_goThrough_247 : decode prog_14_method_45_code 247 = .ok (.goto (-210), 3) := by decide +kernel
theorem d_Md_goThrough_250 : decode prog_14_method_45_code 250 = .ok (.iload 5, 2) := by decide +kernel
theorem d_Md_goThrough_252 : decode prog_14_method_45_code 252 = .ok (.ifCond .ne 7, 3) := by decide +kernel
theorem d_Md_goThrough_255 : decode prog_14_method_45_code 255 = .ok (.iconst 1, 1) := by decide +kernel
theorem d_Md_goThrough_256 : decode prog_14_method_45_code 256 = .ok (.goto 4, 3) := by decide +kernel
theorem d_Md_goThrough_259 : decode prog_14_method_45_code 259 = .ok (.iconst 0, 1) := by decide +kernel
theorem d_Md_goThrough_260 : decode prog_14_method_45_code 260 = .ok (.istore 5, 2) := by decide +kernel
theorem d_Md_goThrough_262 : decode prog_14_method_45_code 262 = .ok (.iinc 6 (-2), 3) := by decide +kernel
theorem d_Md_goThrough_265 : decode prog_14_method_45_code 265 = .ok (.goto (-251), 3) := by decide +kernel
theorem d_Md_goThrough_268 : decode prog_14_method_45_code 268 = .ok (.return_, 1) := by decide +kernel
theorem d_Md_masked_0 : decode prog_14_method_44_code 0 = .ok (.iload_n 0, 1) := by decide +kernel
theorem d_Md_masked_1 : decode prog_14_method_44_code 1 = .ok (.tableswitch 155 0 6 #[43, 57, 69, 81, 95, 113, 133], 43) := by decide +kernel
theorem d_Md_masked_44 : decode prog_14_method_44_code 44 = .ok (.iload_n 1, 1) := by decide +kernel
theorem d_Md_masked_45 : decode prog_14_method_44_code 45 = .ok (.iload_n 2, 1) := by decide +kernel
theorem d_Md_masked_46 : decode prog_14_method_44_code 46 = .ok (.iadd, 1) := by decide +kernel
theorem d_Md_masked_47 : decode prog_14_method_44_code 47 = .ok (.iconst 2, 1) := by decide +kernel
theorem d_Md_masked_48 : decode prog_14_method_44_code 48 = .ok (.irem, 1) := by decide +kernel
theorem d_Md_masked_49 : decode prog_14_method_44_code 49 = .ok (.ifCond .ne 7, 3) := by decide +kernel
theorem d_Md_masked_52 : decode prog_14_method_44_code 52 = .ok (.iconst 1, 1) := by decide +kernel
theorem d_Md_masked_53 : decode prog_14_method_44_code 53 = .ok (.goto 4, 3) := by decide +kernel
theorem d_Md_masked_56 : decode prog_14_method_44_code 56 = .ok (.iconst 0, 1) := by decide +kernel
theorem d_Md_masked_57 : decode prog_14_method_44_code 57 = .ok (.ireturn, 1) := by decide +kernel
theorem d_Md_masked_58 : decode prog_14_method_44_code 58 = .ok (.iload_n 2, 1) := by decide +kernel
theorem d_Md_masked_59 : decode prog_14_method_44_code 59 = .ok (.iconst 2, 1) := by decide +kernel
theorem d_Md_masked_60 : decode prog_14_method_44_code 60 = .ok (.irem, 1) := by decide +kernel
theorem d_Md_masked_61 : decode prog_14_method_44_code 61 = .ok (.ifCond .ne 7, 3) := by decide +kernel
theorem d_Md_masked_64 : decode prog_14_method_44_code 64 = .ok (.iconst 1, 1) := by decide +kernel
theorem d_Md_masked_65 : decode prog_14_method_44_code 65 = .ok (.goto 4, 3) := by decide +kernel
theorem d_Md_masked_68 : decode prog_14_method_44_code 68 = .ok (.iconst 0, 1) := by decide +kernel
theorem d_Md_masked_69 : decode prog_14_method_44_code 69 = .ok (.ireturn, 1) := by decide +kernel
theorem d_Md_masked_70 : decode prog_14_method_44_code 70 = .ok (.iload_n 1, 1) := by decide +kernel
theorem d_Md_masked_71 : decode prog_14_method_44_code 71 = .ok (.iconst 3, 1) := by decide +kernel
theorem d_Md_masked_72 : decode prog_14_method_44_code 72 = .ok (.irem, 1) := by decide +kernel
theorem d_Md_masked_73 : decode prog_14_method_44_code 73 = .ok (.ifCond .ne 7, 3) := by decide +kernel
theorem d_Md_masked_76 : decode prog_14_method_44_code 76 = .ok (.iconst 1, 1) := by decide +kernel
theorem d_Md_masked_77 : decode prog_14_method_44_code 77 = .ok (.goto 4, 3) := by decide +kernel
theorem d_Md_masked_80 : decode prog_14_method_44_code 80 = .ok (.iconst 0, 1) := by decide +kernel
theorem d_Md_masked_81 : decode prog_14_method_44_code 81 = .ok (.ireturn, 1) := by decide +kernel
theorem d_Md_masked_82 : decode prog_14_method_44_code 82 = .ok (.iload_n 1, 1) := by decide +kernel
theorem d_Md_masked_83 : decode prog_14_method_44_code 83 = .ok (.iload_n 2, 1) := by decide +kernel
theorem d_Md_masked_84 : decode prog_14_method_44_code 84 = .ok (.iadd, 1) := by decide +kernel
theorem d_Md_masked_85 : decode prog_14_method_44_code 85 = .ok (.iconst 3, 1) := by decide +kernel
theorem d_Md_masked_86 : decode prog_14_method_44_code 86 = .ok (.irem, 1) := by decide +kernel
theorem d_Md_masked_87 : decode prog_14_method_44_code 87 = .ok (.ifCond .ne 7, 3) := by decide +kernel
theorem d_Md_masked_90 : decode prog_14_method_44_code 90 = .ok (.iconst 1, 1) := by decide +kernel
theorem d_Md_masked_91 : decode prog_14_method_44_code 91 = .ok (.goto 4, 3) := by decide +kernel
theorem d_Md_masked_94 : decode prog_14_method_44_code 94 = .ok (.iconst 0, 1) := by decide +kernel
theorem d_Md_masked_95 : decode prog_14_method_44_code 95 = .ok (.ireturn, 1) := by decide +kernel
theorem d_Md_masked_96 : decode prog_14_method_44_code 96 = .ok (.iload_n 1, 1) := by decide +kernel
theorem d_Md_masked_97 : decode prog_14_method_44_code 97 = .ok (.iconst 3, 1) := by decide +kernel
theorem d_Md_masked_98 : decode prog_14_method_44_code 98 = .ok (.idiv, 1) := by decide +kernel
theorem d_Md_masked_99 : decode prog_14_method_44_code 99 = .ok (.iload_n 2, 1) := by decide +kernel
theorem d_Md_masked_100 : decode prog_14_method_44_code 100 = .ok (.iconst 2, 1) := by decide +kernel
theorem d_Md_masked_101 : decode prog_14_method_44_code 101 = .ok (.idiv, 1) := by decide +kernel
theorem d_Md_masked_102 : decode prog_14_method_44_code 102 = .ok (.iadd, 1) := by decide +kernel
theorem d_Md_masked_103 : decode prog_14_method_44_code 103 = .ok (.iconst 2, 1) := by decide +kernel
theorem d_Md_masked_104 : decode prog_14_method_44_code 104 = .ok (.irem, 1) := by decide +kernel
theorem d_Md_masked_105 : decode prog_14_method_44_code 105 = .ok (.ifCond .ne 7, 3) := by decide +kernel
theorem d_Md_masked_108 : decode prog_14_method_44_code 108 = .ok (.iconst 1, 1) := by decide +kernel
theorem d_Md_masked_109 : decode prog_14_method_44_code 109 = .ok (.goto 4, 3) := by decide +kernel
theorem d_Md_masked_112 : decode prog_14_method_44_code 112 = .ok (.iconst 0, 1) := by decide +kernel
theorem d_Md_masked_113 : decode prog_14_method_44_code 113 = .ok (.ireturn, 1) := by decide +kernel
theorem d_Md_masked_114 : decode prog_14_method_44_code 114 = .ok (.iload_n 1, 1) := by decide +kernel
theorem d_Md_masked_115 : decode prog_14_method_44_code 115 = .ok (.iload_n 2, 1) := by decide +kernel
theorem d_Md_masked_116 : decode prog_14_method_44_code 116 = .ok (.imul, 1) := by decide +kernel
theorem d_Md_masked_117 : decode prog_14_method_44_code 117 = .ok (.iconst 2, 1) := by decide +kernel
theorem d_Md_masked_118 : decode prog_14_method_44_code 118 = .ok (.irem, 1) := by decide +kernel
theorem d_Md_masked_119 : decode prog_14_method_44_code 119 = .ok (.iload_n 1, 1) := by decide +kernel
theorem d_Md_masked_120 : decode prog_14_method_44_code 120 = .ok (.iload_n 2, 1) := by decide +kernel
theorem d_Md_masked_121 : decode prog_14_method_44_code 121 = .ok (.imul, 1) := by decide +kernel
theorem d_Md_masked_122 : decode prog_14_method_44_code 122 = .ok (.iconst 3, 1) := by decide +kernel
theorem d_Md_masked_123 : decode prog_14_method_44_code 123 = .ok (.irem, 1) := by decide +kernel
theorem d_Md_masked_124 : decode prog_14_method_44_code 124 = .ok (.iadd, 1) := by decide +kernel
theorem d_Md_masked_125 : decode prog_14_method_44_code 125 = .ok (.ifCond .ne 7, 3) := by decide +kernel
theorem d_Md_masked_128 : decode prog_14_method_44_code 128 = .ok (.iconst 1, 1) := by decide +kernel
theorem d_Md_masked_129 : decode prog_14_method_44_code 129 = .ok (.goto 4, 3) := by decide +kernel
theorem d_Md_masked_132 : decode prog_14_method_44_code 132 = .ok (.iconst 0, 1) := by decide +kernel
theorem d_Md_masked_133 : decode prog_14_method_44_code 133 = .ok (.ireturn, 1) := by decide +kernel
theorem d_Md_masked_134 : decode prog_14_method_44_code 134 = .ok (.iload_n 1, 1) := by decide +kernel
theorem d_Md_masked_135 : decode prog_14_method_44_code 135 = .ok (.iload_n 2, 1) := by decide +kernel
theorem d_Md_masked_136 : decode prog_14_method_44_code 136 = .ok (.imul, 1) := by decide +kernel
theorem d_Md_masked_137 : decode prog_14_method_44_code 137 = .ok (.iconst 2, 1) := by decide +kernel
theorem d_Md_masked_138 : decode prog_14_method_44_code 138 = .ok (.irem, 1) := by decide +kernel
theorem d_Md_masked_139 : decode prog_14_method_44_code 139 = .ok (.iload_n 1, 1) := by decide +kernel
theorem d_Md_masked_140 : decode prog_14_method_44_code 140 = .ok (.iload_n 2, 1) := by decide +kernel
theorem d_Md_masked_141 : decode prog_14_method_44_code 141 = .ok (.imul, 1) := by decide +kernel
theorem d_Md_masked_142 : decode prog_14_method_44_code 142 = .ok (.iconst 3, 1) := by decide +kernel
theorem d_Md_masked_143 : decode prog_14_method_44_code 143 = .ok (.irem, 1) := by decide +kernel
theorem d_Md_masked_144 : decode prog_14_method_44_code 144 = .ok (.iadd, 1) := by decide +kernel
theorem d_Md_masked_145 : decode prog_14_method_44_code 145 = .ok (.iconst 2, 1) := by decide +kernel
theorem d_Md_masked_146 : decode prog_14_method_44_code 146 = .ok (.irem, 1) := by decide +kernel
theorem d_Md_masked_147 : decode prog_14_method_44_code 147 = .ok (.ifCond .ne 7, 3) := by decide +kernel
theorem d_Md_masked_150 : decode prog_14_method_44_code 150 = .ok (.iconst 1, 1) := by decide +kernel
theorem d_Md_masked_151 : decode prog_14_method_44_code 151 = .ok (.goto 4, 3) := by decide +kernel
theorem d_Md_masked_154 : decode prog_14_method_44_code 154 = .ok (.iconst 0, 1) := by decide +kernel
theorem d_Md_masked_155 : decode prog_14_method_44_code 155 = .ok (.ireturn, 1) := by decide +kernel
theorem d_Md_masked_156 : decode prog_14_method_44_code 156 = .ok (.iload_n 1, 1) := by decide +kernel
theorem d_Md_masked_157 : decode prog_14_method_44_code 157 = .ok (.iload_n 2, 1) := by decide +kernel
theorem d_Md_masked_158 : decode prog_14_method_44_code 158 = .ok (.iadd, 1) := by decide +kernel
theorem d_Md_masked_159 : decode prog_14_method_44_code 159 = .ok (.iconst 2, 1) := by decide +kernel
theorem d_Md_masked_160 : decode prog_14_method_44_code 160 = .ok (.irem, 1) := by decide +kernel
theorem d_Md_masked_161 : decode prog_14_method_44_code 161 = .ok (.iload_n 1, 1) := by decide +kernel
theorem d_Md_masked_162 : decode prog_14_method_44_code 162 = .ok (.iload_n 2, 1) := by decide +kernel
theorem d_Md_masked_163 : decode prog_14_method_44_code 163 = .ok (.imul, 1) := by decide +kernel
theorem d_Md_masked_164 : decode prog_14_method_44_code 164 = .ok (.iconst 3, 1) := by decide +kernel
theorem d_Md_masked_165 : decode prog_14_method_44_code 165 = .ok (.irem, 1) := by decide +kernel
theorem d_Md_masked_166 : decode prog_14_method_44_code 166 = .ok (.iadd, 1) := by decide +kernel
theorem d_Md_masked_167 : decode prog_14_method_44_code 167 = .ok (.iconst 2, 1) := by decide +kernel
theorem d_Md_masked_168 : decode prog_14_method_44_code 168 = .ok (.irem, 1) := by decide +kernel
theorem d_Md_masked_169 : decode prog_14_method_44_code 169 = .ok (.ifCond .ne 7, 3) := by decide +kernel
theorem d_Md_masked_172 : decode prog_14_method_44_code 172 = .ok (.iconst 1, 1) := by decide +kernel
theorem d_Md_masked_173 : decode prog_14_method_44_code 173 = .ok (.goto 4, 3) := by decide +kernel
theorem d_Md_masked_176 : decode prog_14_method_44_code 176 = .ok (.iconst 0, 1) := by decide +kernel
theorem d_Md_masked_177 : decode prog_14_method_44_code 177 = .ok (.ireturn, 1) := by decide +kernel
theorem d_Md_penalty_0 : decode prog_14_method_48_code 0 = .ok (.aload_n 0, 1) := by decide +kernel
theorem d_Md_penalty_1 : decode prog_14_method_48_code 1 = .ok (.iconst 0, 1) := by decide +kernel
theorem d_Md_penalty_2 : decode prog_14_method_48_code 2 = .ok (.invokevirtual 210, 3) := by decide +kernel
theorem d_Md_penalty_5 : decode prog_14_method_48_code 5 = .ok (.aload_n 0, 1) := by decide +kernel
theorem d_Md_penalty_6 : decode prog_14_method_48_code 6 = .ok (.iconst 1, 1) := by decide +kernel
theorem d_Md_penalty_7 : decode prog_14_method_48_code 7 = .ok (.invokevirtual 210, 3) := by decide +kernel
theorem d_Md_penalty_10 : decode prog_14_method_48_code 10 = .ok (.iadd, 1) := by decide +kernel
theorem d_Md_penalty_11 : decode prog_14_method_48_code 11 = .ok (.istore_n 1, 1) := by decide +kernel
theorem d_Md_penalty_12 : decode prog_14_method_48_code 12 = .ok (.iconst 0, 1) := by decide +kernel
theorem d_Md_penalty_13 : decode prog_14_method_48_code 13 = .ok (.istore_n 2, 1) := by decide +kernel
theorem d_Md_penalty_14 : decode prog_14_method_48_code 14 = .ok (.iconst 0, 1) := by decide +kernel
theorem d_Md_penalty_15 : decode prog_14_method_48_code 15 = .ok (.istore_n 3, 1) := by decide +kernel
theorem d_Md_penalty_16 : decode prog_14_method_48_code 16 = .ok (.iload_n 3, 1) := by decide +kernel
theorem d_Md_penalty_17 : decode prog_14_method_48_code 17 = .ok (.aload_n 0, 1) := by decide +kernel
theorem d_Md_penalty_18 : decode prog_14_method_48_code 18 = .ok (.getfield 163, 3) := by decide +kernel
theorem d_Md_penalty_21 : decode prog_14_method_48_code 21 = .ok (.if_icmp .ge 111, 3) := by decide +kernel
theorem d_Md_penalty_24 : decode prog_14_method_48_code 24 = .ok (.iconst 0, 1) := by decide +kernel
theorem d_Md_penalty_25 : decode prog_14_method_48_code 25 = .ok (.istore 4, 2) := by decide +kernel
theorem d_Md_penalty_27 : decode prog_14_method_48_code 27 = .ok (.iload 4, 2) := by decide +kernel
theorem d_Md_penalty_29 : decode prog_14_method_48_code 29 = .ok (.aload_n 0, 1) := by decide +kernel
theorem d_Md_penalty_30 : decode prog_14_method_48_code 30 = .ok (.getfield 163, 3) := by decide +kernel
theorem d_Md_penalty_33 : decode prog_14_method_48_code 33 = .ok (.if_icmp .ge 93, 3) := by decide +kernel
theorem d_Md_penalty_36 : decode prog_14_method_48_code 36 = .ok (.iload_n 2, 1) := by decide +kernel
theorem d_Md_penalty_37 : decode prog_14_method_48_code 37 = .ok (.aload_n 0, 1) := by decide +kernel
theorem d_Md_penalty_38 : decode prog_14_method_48_code 38 = .ok (.iload 4, 2) := by decide +kernel
theorem d_Md_penalty_40 : decode prog_14_method_48_code 40 = .ok (.iload_n 3, 1) := by decide +kernel
theorem d_Md_penalty_41 : decode prog_14_method_48_code 41 = .ok (.iconst 0, 1) := by decide +kernel
theorem d_Md_penalty_42 : decode prog_14_method_48_code 42 = .ok (.invokevirtual 206, 3) := by decide +kernel
theorem d_Md_penalty_45 : decode prog_14_method_48_code 45 = .ok (.iadd, 1) := by decide +kernel
theorem d_Md_penalty_46 : decode prog_14_method_48_code 46 = .ok (.istore_n 2, 1) := by decide +kernel
theorem d_Md_penalty_47 : decode prog_14_method_48_code 47 = .ok (.iload 4, 2) := by decide +kernel
theorem d_Md_penalty_49 : decode prog_14_method_48_code 49 = .ok (.ifCond .le 71, 3) := by decide +kernel
theorem d_Md_penalty_52 : decode prog_14_method_48_code 52 = .ok (.iload_n 3, 1) := by decide +kernel
theorem d_Md_penalty_53 : decode prog_14_method_48_code 53 = .ok (.ifCond .le 67, 3) := by decide +kernel
theorem d_Md_penalty_56 : decode prog_14_method_48_code 56 = .ok (.aload_n 0, 1) := by decide +kernel
theorem d_Md_penalty_57 : decode prog_14_method_48_code 57 = .ok (.iload 4, 2) := by decide +kernel
theorem d_Md_penalty_59 : decode prog_14_method_48_code 59 = .ok (.iload_n 3, 1) := by decide +kernel
theorem d_Md_penalty_60 : decode prog_14_method_48_code 60 = .ok (.iconst 0, 1) := by decide +kernel
theorem d_Md_penalty_61 : decode prog_14_method_48_code 61 = .ok (.invokevirtual 206, 3) := by decide +kernel
theorem d_Md_penalty_64 : decode prog_14_method_48_code 64 = .ok (.aload_n 0, 1) := by decide +kernel
theorem d_Md_penalty_65 : decode prog_14_method_48_code 65 = .ok (.iload 4, 2) := by decide +kernel
theorem d_Md_penalty_67 : decode prog_14_method_48_code 67 = .ok (.iconst 1, 1) := by decide +kernel
theorem d_Md_penalty_68 : decode prog_14_method_48_code 68 = .ok (.isub, 1) := by decide +kernel
theorem d_Md_penalty_69 : decode prog_14_method_48_code 69 = .ok (.iload_n 3, 1) := by decide +kernel
theorem d_Md_penalty_70 : decode prog_14_method_48_code 70 = .ok (.iconst 0, 1) := by decide +kernel
theorem d_Md_penalty_71 : decode prog_14_method_48_code 71 = .ok (.invokevirtual 206, 3) := by decide +kernel
theorem d_Md_penalty_74 : decode prog_14_method_48_code 74 = .ok (.iadd, 1) := by decide +kernel
theorem d_Md_penalty_75 : decode prog_14_method_48_code 75 = .ok (.aload_n 0, 1) := by decide +kernel
theorem d_Md_penalty_76 : decode prog_14_method_48_code 76 = .ok (.iload 4, 2) := by decide +kernel
theorem d_Md_penalty_78 : decode prog_14_method_48_code 78 = .ok (.iload_n 3, 1) := by decide +kernel
theorem d_Md_penalty_79 : decode prog_14_method_48_code 79 = .ok (.iconst 1, 1) := by decide +kernel
theorem d_Md_penalty_80 : decode prog_14_method_48_code 80 = .ok (.isub, 1) := by decide +kernel
theorem d_Md_penalty_81 : decode prog_14_method_48_code 81 = .ok (.iconst 0, 1) := by decide +kernel
theorem d_Md_penalty_82 : decode prog_14_method_48_code 82 = .ok (.invokevirtual 206, 3) := by decide +kernel
theorem d_Md_penalty_85 : decode prog_14_method_48_code 85 = .ok (.iadd, 1) := by decide +kernel
theorem d_Md_penalty_86 : decode prog_14_method_48_code 86 = .ok (.aload_n 0, 1) := by decide +kernel
theorem d_Md_penalty_87 : decode prog_14_method_48_code 87 = .ok (.iload 4, 2) := by decide +kernel
theorem d_Md_penalty_89 : decode prog_14_method_48_code 89 = .ok (.iconst 1, 1) := by decide +kernel
theorem d_Md_penalty_90 : decode prog_14_method_48_code 90 = .ok (.isub, 1) := by decide +kernel
theorem d_Md_penalty_91 : decode prog_14_method_48_code 91 = .ok (.iload_n 3, 1) := by decide +kernel
theorem d_Md_penalty_92 : decode prog_14_method_48_code 92 = .ok (.iconst 1, 1) := by decide +kernel
theorem d_Md_penalty_93 : decode prog_14_method_48_code 93 = .ok (.isub, 1) := by decide +kernel
theorem d_Md_penalty_94 : decode prog_14_method_48_code 94 = .ok (.iconst 0, 1) := by decide +kernel
theorem d_Md_penalty_95 : decode prog_14_method_48_code 95 = .ok (.invokevirtual 206, 3) := by decide +kernel
theorem d_Md_penalty_98 : decode prog_14_method_48_code 98 = .ok (.iadd, 1) := by decide +kernel
theorem d_Md_penalty_99 : decode prog_14_method_48_code 99 = .ok (.istore 5, 2) := by decide +kernel
theorem d_Md_penalty_101 : decode prog_14_method_48_code 101 = .ok (.iload 5, 2) := by decide +kernel
theorem d_Md_penalty_103 : decode prog_14_method_48_code 103 = .ok (.ifCond .eq 9, 3) := by decide +kernel
theorem d_Md_penalty_106 : decode prog_14_method_48_code 106 = .ok (.iload 5, 2) := by decide +kernel
theorem d_Md_penalty_108 : decode prog_14_method_48_code 108 = .ok (.iconst 4, 1) := by decide +kernel
theorem d_Md_penalty_109 : decode prog_14_method_48_code 109 = .ok (.if_icmp .ne 9, 3) := by decide +kernel
theorem d_Md_penalty_112 : decode prog_14_method_48_code 112 = .ok (.iload_n 1, 1) := by decide +kernel
theorem d_Md_penalty_113 : decode prog_14_method_48_code 113 = .ok (.iconst 3, 1) := by decide +kernel
theorem d_Md_penalty_114 : decode prog_14_method_48_code 114 = .ok (.iadd, 1) := by decide +kernel
theorem d_Md_penalty_115 : decode prog_14_method_48_code 115 = .ok (.goto 4, 3) := by decide +kernel
theorem d_Md_penalty_118 : decode prog_14_method_48_code 118 = .ok (.iload_n 1, 1) := by decide +kernel
theorem d_Md_penalty_119 : decode prog_14_method_48_code 119 = .ok (.istore_n 1, 1) := by decide +kernel
theorem d_Md_penalty_120 : decode prog_14_method_48_code 120 = .ok (.iinc 4 1, 3) := by decide +kernel
theorem d_Md_penalty_123 : decode prog_14_method_48_code 123 = .ok (.goto (-96), 3) := by decide +kernel
theorem d_Md_penalty_126 : decode prog_14_method_48_code 126 = .ok (.iinc 3 1, 3) := by decide +kernel
theorem d_Md_penalty_129 : decode prog_14_method_48_code 129 = .ok (.goto (-113), 3) := by decide +kernel
theorem d_Md_penalty_132 : decode prog_14_method_48_code 132 = .ok (.aload_n 0, 1) := by decide +kernel
theorem d_Md_penalty_133 : decode prog_14_method_48_code 133 = .ok (.getfield 163, 3) := by decide +kernel
theorem d_Md_penalty_136 : decode prog_14_method_48_code 136 = .ok (.aload_n 0, 1) := by decide +kernel
theorem d_Md_penalty_137 : decode prog_14_method_48_code 137 = .ok (.getfield 163, 3) := by decide +kernel
theorem d_Md_penalty_140 : decode prog_14_method_48_code 140 = .ok (.imul, 1) := by decide +kernel
theorem d_Md_penalty_141 : decode prog_14_method_48_code 141 = .ok (.istore_n 3, 1) := by decide +kernel
theorem d_Md_penalty_142 : decode prog_14_method_48_code 142 = .ok (.bipush 20, 2) := by decide +kernel
theorem d_Md_penalty_144 : decode prog_14_method_48_code 144 = .ok (.iload_n 2, 1) := by decide +kernel
theorem d_Md_penalty_145 : decode prog_14_method_48_code 145 = .ok (.imul, 1) := by decide +kernel
theorem d_Md_penalty_146 : decode prog_14_method_48_code 146 = .ok (.bipush 10, 2) := by decide +kernel
theorem d_Md_penalty_148 : decode prog_14_method_48_code 148 = .ok (.iload_n 3, 1) := by decide +kernel
theorem d_Md_penalty_149 : decode prog_14_method_48_code 149 = .ok (.imul, 1) := by decide +kernel
theorem d_Md_penalty_150 : decode prog_14_method_48_code 150 = .ok (.isub, 1) := by decide +kernel
theorem d_Md_penalty_151 : decode prog_14_method_48_code 151 = .ok (.istore 4, 2) := by decide +kernel
theorem d_Md_penalty_153 : decode prog_14_method_48_code 153 = .ok (.iload_n 1, 1) := by decide +kernel
theorem d_Md_penalty_154 : decode prog_14_method_48_code 154 = .ok (.bipush 10, 2) := by decide +kernel
theorem d_Md_penalty_156 : decode prog_14_method_48_code 156 = .ok (.iload 4, 2) := by decide +kernel
theorem d_Md_penalty_158 : decode prog_14_method_48_code 158 = .ok (.ifCond .ge 9, 3) := by decide +kernel
theorem d_Md_penalty_161 : decode prog_14_method_48_code 161 = .ok (.iload 4, 2) := by decide +kernel
theorem d_Md_penalty_163 : decode prog_14_method_48_code 163 = .ok (.ineg, 1) := by decide +kernel
theorem d_Md_penalty_164 : decode prog_14_method_48_code 164 = .ok (.goto 5, 3) := by decide +kernel
theorem d_Md_penalty_167 : decode prog_14_method_48_code 167 = .ok (.iload 4, 2) := by decide +kernel
theorem d_Md_penalty_169 : decode prog_14_method_48_code 169 = .ok (.iload_n 3, 1) := by decide +kernel
theorem d_Md_penalty_170 : decode prog_14_method_48_code 170 = .ok (.idiv, 1) := by decide +kernel
theorem d_Md_penalty_171 : decode prog_14_method_48_code 171 = .ok (.imul, 1) := by decide +kernel
theorem d_Md_penalty_172 : decode prog_14_method_48_code 172 = .ok (.iadd, 1) := by decide +kernel
theorem d_Md_penalty_173 : decode prog_14_method_48_code 173 = .ok (.ireturn, 1) := by decide +kernel
theorem d_Md_lines_0 : decode prog_14_method_47_code 0 = .ok (.iconst 0, 1) := by decide +kernel
theorem d_Md_lines_1 : decode prog_14_method_47_code 1 = .ok (.istore_n 2, 1) := by decide +kernel
theorem d_Md_lines_2 : decode prog_14_method_47_code 2 = .ok (.iconst 0, 1) := by decide +kernel
theorem d_Md_lines_3 : decode prog_14_method_47_code 3 = .ok (.istore_n 3, 1) := by decide +kernel
theorem d_Md_lines_4 : decode prog_14_method_47_code 4 = .ok (.iload_n 3, 1) := by decide +kernel
theorem d_Md_lines_5 : decode prog_14_method_47_code 5 = .ok (.aload_n 0, 1) := by decide +kernel
theorem d_Md_lines_6 : decode prog_14_method_47_code 6 = .ok (.getfield 163, 3) := by decide +kernel
theorem d_Md_lines_9 : decode prog_14_method_47_code 9 = .ok (.if_icmp .ge 143, 3) := by decide +kernel
theorem d_Md_lines_12 : decode prog_14_method_47_code 12 = .ok (.iconst 0, 1) := by decide +kernel
theorem d_Md_lines_13 : decode prog_14_method_47_code 13 = .ok (.istore 4, 2) := by decide +kernel
theorem d_Md_lines_15 : decode prog_14_method_47_code 15 = .ok (.iconst 0, 1) := by decide +kernel
theorem d_Md_lines_16 : decode prog_14_method_47_code 16 = .ok (.istore 5, 2) := by decide +kernel
theorem d_Md_lines_18 : decode prog_14_method_47_code 18 = .ok (.iconst 0, 1) := by decide +kernel
theorem d_Md_lines_19 : decode prog_14_method_47_code 19 = .ok (.istore 6, 2) := by decide +kernel
theorem d_Md_lines_21 : decode prog_14_method_47_code 21 = .ok (.iload 6, 2) := by decide +kernel
theorem d_Md_lines_23 : decode prog_14_method_47_code 23 = .ok (.aload_n 0, 1) := by decide +kernel
theorem d_Md_lines_24 : decode prog_14_method_47_code 24 = .ok (.getfield 163, 3) := by decide +kernel
theorem d_Md_lines_27 : decode prog_14_method_47_code 27 = .ok (.if_icmp .ge 119, 3) := by decide +kernel
theorem d_Md_lines_30 : decode prog_14_method_47_code 30 = .ok (.aload_n 0, 1) := by decide +kernel
theorem d_Md_lines_31 : decode prog_14_method_47_code 31 = .ok (.iload 6, 2) := by decide +kernel
theorem d_Md_lines_33 : decode prog_14_method_47_code 33 = .ok (.iload_n 3, 1) := by decide +kernel
theorem d_Md_lines_34 : decode prog_14_method_47_code 34 = .ok (.iload_n 1, 1) := by decide +kernel
theorem d_Md_lines_35 : decode prog_14_method_47_code 35 = .ok (.invokevirtual 206, 3) := by decide +kernel
theorem d_Md_lines_38 : decode prog_14_method_47_code 38 = .ok (.istore 7, 2) := by decide +kernel
theorem d_Md_lines_40 : decode prog_14_method_47_code 40 = .ok (.iload 6, 2) := by decide +kernel
theorem d_Md_lines_42 : decode prog_14_method_47_code 42 = .ok (.ifCond .le 25, 3) := by decide +kernel
theorem d_Md_lines_45 : decode prog_14_method_47_code 45 = .ok (.aload_n 0, 1) := by decide +kernel
theorem d_Md_lines_46 : decode prog_14_method_47_code 46 = .ok (.iload 6, 2) := by decide +kernel
theorem d_Md_lines_48 : decode prog_14_method_47_code 48 = .ok (.iconst 1, 1) := by decide +kernel
theorem d_Md_lines_49 : decode prog_14_method_47_code 49 = .ok (.isub, 1) := by decide +kernel
theorem d_Md_lines_50 : decode prog_14_method_47_code 50 = .ok (.iload_n 3, 1) := by decide +kernel
theorem d_Md_lines_51 : decode prog_14_method_47_code 51 = .ok (.iload_n 1, 1) := by decide +kernel
theorem d_Md_lines_52 : decode prog_14_method_47_code 52 = .ok (.invokevirtual 206, 3) := by decide +kernel
theorem d_Md_lines_55 : decode prog_14_method_47_code 55 = .ok (.iload 7, 2) := by decide +kernel
theorem d_Md_lines_57 : decode prog_14_method_47_code 57 = .ok (.if_icmp .ne 10, 3) := by decide +kernel
theorem d_Md_lines_60 : decode prog_14_method_47_code 60 = .ok (.iload 4, 2) := by decide +kernel
theorem d_Md_lines_62 : decode prog_14_method_47_code 62 = .ok (.iconst 1, 1) := by decide +kernel
theorem d_Md_lines_63 : decode prog_14_method_47_code 63 = .ok (.iadd, 1) := by decide +kernel
theorem d_Md_lines_64 : decode prog_14_method_47_code 64 = .ok (.goto 4, 3) := by decide +kernel
theorem d_Md_lines_67 : decode prog_14_method_47_code 67 = .ok (.iconst 1, 1) := by decide +kernel
theorem d_Md_lines_68 : decode prog_14_method_47_code 68 = .ok (.istore 4, 2) := by decide +kernel
theorem d_Md_lines_70 : decode prog_14_method_47_code 70 = .ok (.iload 4, 2) := by decide +kernel
theorem d_Md_lines_72 : decode prog_14_method_47_code 72 = .ok (.iconst 5, 1) := by decide +kernel
theorem d_Md_lines_73 : decode prog_14_method_47_code 73 = .ok (.if_icmp .ne 9, 3) := by decide +kernel
theorem d_Md_lines_76 : decode prog_14_method_47_code 76 = .ok (.iload_n 2, 1) := by decide +kernel
theorem d_Md_lines_77 : decode prog_14_method_47_code 77 = .ok (.iconst 3, 1) := by decide +kernel
theorem d_Md_lines_78 : decode prog_14_method_47_code 78 = .ok (.iadd, 1) := by decide +kernel
theorem d_Md_lines_79 : decode prog_14_method_47_code 79 = .ok (.goto 16, 3) := by decide +kernel
theorem d_Md_lines_82 : decode prog_14_method_47_code 82 = .ok (.iload 4, 2) := by decide +kernel
theorem d_Md_lines_84 : decode prog_14_method_47_code 84 = .ok (.iconst 5, 1) := by decide +kernel
theorem d_Md_lines_85 : decode prog_14_method_47_code 85 = .ok (.if_icmp .le 9, 3) := by decide +kernel
theorem d_Md_lines_88 : decode prog_14_method_47_code 88 = .ok (.iload_n 2, 1) := by decide +kernel
theorem d_Md_lines_89 : decode prog_14_method_47_code 89 = .ok (.iconst 1, 1) := by decide +kernel
theorem d_Md_lines_90 : decode prog_14_method_47_code 90 = .ok (.iadd, 1) := by decide +kernel
theorem d_Md_lines_91 : decode prog_14_method_47_code 91 = .ok (.goto 4, 3) := by decide +kernel
theorem d_Md_lines_94 : decode prog_14_method_47_code 94 = .ok (.iload_n 2, 1) := by decide +kernel
theorem d_Md_lines_95 : decode prog_14_method_47_code 95 = .ok (.istore_n 2, 1) := by decide +kernel
theorem d_Md_lines_96 : decode prog_14_method_47_code 96 = .ok (.iload 5, 2) := by decide +kernel
theorem d_Md_lines_98 : decode prog_14_method_47_code 98 = .ok (.iconst 1, 1) := by decide +kernel
theorem d_Md_lines_99 : decode prog_14_method_47_code 99 = .ok (.ishl, 1) := by decide +kernel
theorem d_Md_lines_100 : decode prog_14_method_47_code 100 = .ok (.iload 7, 2) := by decide +kernel
theorem d_Md_lines_102 : decode prog_14_method_47_code 102 = .ok (.ior, 1) := by decide +kernel
theorem d_Md_lines_103 : decode prog_14_method_47_code 103 = .ok (.sipush 2047, 3) := by decide +kernel
theorem d_Md_lines_106 : decode prog_14_method_47_code 106 = .ok (.iand, 1) := by decide +kernel
theorem d_Md_lines_107 : decode prog_14_method_47_code 107 = .ok (.istore 5, 2) := by decide +kernel
theorem d_Md_lines_109 : decode prog_14_method_47_code 109 = .ok (.iload 6, 2) := by decide +kernel
theorem d_Md_lines_111 : decode prog_14_method_47_code 111 = .ok (.bipush 10, 2) := by decide +kernel
theorem d_Md_lines_113 : decode prog_14_method_47_code 113 = .ok (.if_icmp .lt 25, 3) := by decide +kernel
theorem d_Md_lines_116 : decode prog_14_method_47_code 116 = .ok (.iload 5, 2) := by decide +kernel
theorem d_Md_lines_118 : decode prog_14_method_47_code 118 = .ok (.sipush 1488, 3) := by decide +kernel
theorem d_Md_lines_121 : decode prog_14_method_47_code 121 = .ok (.if_icmp .eq 10, 3) := by decide +kernel
theorem d_Md_lines_124 : decode prog_14_method_47_code 124 = .ok (.iload 5, 2) := by decide +kernel
theorem d_Md_lines_126 : decode prog_14_method_47_code 126 = .ok (.bipush 93, 2) := by decide +kernel
theorem d_Md_lines_128 : decode prog_14_method_47_code 128 = .ok (.if_icmp .ne 10, 3) := by decide +kernel
theorem d_Md_lines_131 : decode prog_14_method_47_code 131 = .ok (.iload_n 2, 1) := by decide +kernel
theorem d_Md_lines_132 : decode prog_14_method_47_code 132 = .ok (.bipush 40, 2) := by decide +kernel
theorem d_Md_lines_134 : decode prog_14_method_47_code 134 = .ok (.iadd, 1) := by decide +kernel
theorem d_Md_lines_135 : decode prog_14_method_47_code 135 = .ok (.goto 4, 3) := by decide +kernel
theorem d_Md_lines_138 : decode prog_14_method_47_code 138 = .ok (.iload_n 2, 1) := by decide +kernel
theorem d_Md_lines_139 : decode prog_14_method_47_code 139 = .ok (.istore_n 2, 1) := by decide +kernel
theorem d_Md_lines_140 : decode prog_14_method_47_code 140 = .ok (.iinc 6 1, 3) := by decide +kernel
theorem d_Md_lines_143 : decode prog_14_method_47_code 143 = .ok (.goto (-122), 3) := by decide +kernel
theorem d_Md_lines_146 : decode prog_14_method_47_code 146 = .ok (.iinc 3 1, 3) := by decide +kernel
theorem d_Md_lines_149 : decode prog_14_method_47_code 149 = .ok (.goto (-145), 3) := by decide +kernel
theorem d_Md_lines_152 : decode prog_14_method_47_code 152 = .ok (.iload_n 2, 1) := by decide +kernel
theorem d_Md_lines_153 : decode prog_14_method_47_code 153 = .ok (.ireturn, 1) := by decide +kernel
theorem d_Md_module_0 : decode prog_14_method_46_code 0 = .ok (.aload_n 0, 1) := by decide +kernel
theorem d_Md_module_1 : decode prog_14_method_46_code 1 = .ok (.getfield 19, 3) := by decide +kernel
theorem d_Md_module_4 : decode prog_14_method_46_code 4 = .ok (.iload_n 3, 1) := by decide +kernel
theorem d_Md_module_5 : decode prog_14_method_46_code 5 = .ok (.ifCond .eq 13, 3) := by decide +kernel
theorem d_Md_module_8 : decode prog_14_method_46_code 8 = .ok (.iload_n 2, 1) := by decide +kernel
theorem d_Md_module_9 : decode prog_14_method_46_code 9 = .ok (.sipush 177, 3) := by decide +kernel
theorem d_Md_module_12 : decode prog_14_method_46_code 12 = .ok (.iload_n 1, 1) := by decide +kernel
theorem d_Md_module_13 : decode prog_14_method_46_code 13 = .ok (.imul, 1) := by decide +kernel
theorem d_Md_module_14 : decode prog_14_method_46_code 14 = .ok (.iadd, 1) := by decide +kernel
theorem d_Md_module_15 : decode prog_14_method_46_code 15 = .ok (.goto 10, 3) := by decide +kernel
theorem d_Md_module_18 : decode prog_14_method_46_code 18 = .ok (.iload_n 1, 1) := by decide +kernel
theorem d_Md_module_19 : decode prog_14_method_46_code 19 = .ok (.sipush 177, 3) := by decide +kernel
theorem d_Md_module_22 : decode prog_14_method_46_code 22 = .ok (.iload_n 2, 1) := by decide +kernel
theorem d_Md_module_23 : decode prog_14_method_46_code 23 = .ok (.imul, 1) := by decide +kernel
theorem d_Md_module_24 : decode prog_14_method_46_code 24 = .ok (.iadd, 1) := by decide +kernel
theorem d_Md_module_25 : decode prog_14_method_46_code 25 = .ok (.iaload, 1) := by decide +kernel
theorem d_Md_module_26 : decode prog_14_method_46_code 26 = .ok (.ireturn, 1) := by decide +kernel
theorem d_Md_blank_0 : decode prog_14_method_53_code 0 = .ok (.aload_n 0, 1) := by decide +kernel
theorem d_Md_blank_1 : decode prog_14_method_53_code 1 = .ok (.iload_n 1, 1) := by decide +kernel
theorem d_Md_blank_2 : decode prog_14_method_53_code 2 = .ok (.iconst 1, 1) := by decide +kernel
theorem d_Md_blank_3 : decode prog_14_method_53_code 3 = .ok (.if_icmp .lt 9, 3) := by decide +kernel
theorem d_Md_blank_6 : decode prog_14_method_53_code 6 = .ok (.iload_n 1, 1) := by decide +kernel
theorem d_Md_blank_7 : decode prog_14_method_53_code 7 = .ok (.bipush 40, 2) := by decide +kernel
theorem d_Md_blank_9 : decode prog_14_method_53_code 9 = .ok (.if_icmp .le 7, 3) := by decide +kernel
theorem d_Md_blank_12 : decode prog_14_method_53_code 12 = .ok (.iconst 1, 1) := by decide +kernel
theorem d_Md_blank_13 : decode prog_14_method_53_code 13 = .ok (.goto 4, 3) := by decide +kernel
theorem d_Md_blank_16 : decode prog_14_method_53_code 16 = .ok (.iconst 0, 1) := by decide +kernel
theorem d_Md_blank_17 : decode prog_14_method_53_code 17 = .ok (.putfield 73, 3) := by decide +kernel
theorem d_Md_blank_20 : decode prog_14_method_53_code 20 = .ok (.aload_n 0, 1) := by decide +kernel
theorem d_Md_blank_21 : decode prog_14_method_53_code 21 = .ok (.getfield 73, 3) := by decide +kernel
theorem d_Md_blank_24 : decode prog_14_method_53_code 24 = .ok (.ifCond .le 5, 3) := by decide +kernel
theorem d_Md_blank_27 : decode prog_14_method_53_code 27 = .ok (.iconst 0, 1) := by decide +kernel
theorem d_Md_blank_28 : decode prog_14_method_53_code 28 = .ok (.ireturn, 1) := by decide +kernel
theorem d_Md_blank_29 : decode prog_14_method_53_code 29 = .ok (.aload_n 0, 1) := by decide +kernel
theorem d_Md_blank_30 : decode prog_14_method_53_code 30 = .ok (.iload_n 1, 1) := by decide +kernel
theorem d_Md_blank_31 : decode prog_14_method_53_code 31 = .ok (.putfield 229, 3) := by decide +kernel
theorem d_Md_blank_34 : decode prog_14_method_53_code 34 = .ok (.aload_n 0, 1) := by decide +kernel
theorem d_Md_blank_35 : decode prog_14_method_53_code 35 = .ok (.iload_n 1, 1) := by decide +kernel
theorem d_Md_blank_36 : decode prog_14_method_53_code 36 = .ok (.invokevirtual 232, 3) := by decide +kernel
theorem d_Md_blank_39 : decode prog_14_method_53_code 39 = .ok (.iconst 0, 1) := by decide +kernel
theorem d_Md_blank_40 : decode prog_14_method_53_code 40 = .ok (.istore_n 2, 1) := by decide +kernel
theorem d_Md_blank_41 : decode prog_14_method_53_code 41 = .ok (.iload_n 2, 1) := by decide +kernel
theorem d_Md_blank_42 : decode prog_14_method_53_code 42 = .ok (.aload_n 0, 1) := by decide +kernel
theorem d_Md_blank_43 : decode prog_14_method_53_code 43 = .ok (.getfield 19, 3) := by decide +kernel
theorem d_Md_blank_46 : decode prog_14_method_53_code 46 = .ok (.arraylength, 1) := by decide +kernel
theorem d_Md_blank_47 : decode prog_14_method_53_code 47 = .ok (.if_icmp .ge 16, 3) := by decide +kernel
theorem d_Md_blank_50 : decode prog_14_method_53_code 50 = .ok (.aload_n 0, 1) := by decide +kernel
theorem d_Md_blank_51 : decode prog_14_method_53_code 51 = .ok (.getfield 19, 3) := by decide +kernel
theorem d_Md_blank_54 : decode prog_14_method_53_code 54 = .ok (.iload_n 2, 1) := by decide +kernel
theorem d_Md_blank_55 : decode prog_14_method_53_code 55 = .ok (.iconst 0, 1) := by decide +kernel
theorem d_Md_blank_56 : decode prog_14_method_53_code 56 = .ok (.iastore, 1) := by decide +kernel
theorem d_Md_blank_57 : decode prog_14_method_53_code 57 = .ok (.iinc 2 1, 3) := by decide +kernel
theorem d_Md_blank_60 : decode prog_14_method_53_code 60 = .ok (.goto (-19), 3) := by decide +kernel
theorem d_Md_blank_63 : decode prog_14_method_53_code 63 = .ok (.aload_n 0, 1) := by decide +kernel
theorem d_Md_blank_64 : decode prog_14_method_53_code 64 = .ok (.iconst 0, 1) := by decide +kernel
theorem d_Md_blank_65 : decode prog_14_method_53_code 65 = .ok (.putfield 246, 3) := by decide +kernel
theorem d_Md_blank_68 : decode prog_14_method_53_code 68 = .ok (.aload_n 0, 1) := by decide +kernel
theorem d_Md_blank_69 : decode prog_14_method_53_code 69 = .ok (.getfield 163, 3) := by decide +kernel
theorem d_Md_blank_72 : decode prog_14_method_53_code 72 = .ok (.ireturn, 1) := by decide +kernel
theorem d_Md_told_0 : decode prog_14_method_54_code 0 = .ok (.aload_n 0, 1) := by decide +kernel
theorem d_Md_told_1 : decode prog_14_method_54_code 1 = .ok (.iload_n 1, 1) := by decide +kernel
theorem d_Md_told_2 : decode prog_14_method_54_code 2 = .ok (.ifCond .lt 8, 3) := by decide +kernel
theorem d_Md_told_5 : decode prog_14_method_54_code 5 = .ok (.iload_n 1, 1) := by decide +kernel
theorem d_Md_told_6 : decode prog_14_method_54_code 6 = .ok (.iconst 5, 1) := by decide +kernel
theorem d_Md_told_7 : decode prog_14_method_54_code 7 = .ok (.if_icmp .le 7, 3) := by decide +kernel
theorem d_Md_told_10 : decode prog_14_method_54_code 10 = .ok (.iconst 1, 1) := by decide +kernel
theorem d_Md_told_11 : decode prog_14_method_54_code 11 = .ok (.goto 4, 3) := by decide +kernel
theorem d_Md_told_14 : decode prog_14_method_54_code 14 = .ok (.iconst 0, 1) := by decide +kernel
theorem d_Md_told_15 : decode prog_14_method_54_code 15 = .ok (.putfield 73, 3) := by decide +kernel
theorem d_Md_told_18 : decode prog_14_method_54_code 18 = .ok (.aload_n 0, 1) := by decide +kernel
theorem d_Md_told_19 : decode prog_14_method_54_code 19 = .ok (.getfield 73, 3) := by decide +kernel
theorem d_Md_told_22 : decode prog_14_method_54_code 22 = .ok (.ifCond .le 7, 3) := by decide +kernel
theorem d_Md_told_25 : decode prog_14_method_54_code 25 = .ok (.iconst 0, 1) := by decide +kernel
theorem d_Md_told_26 : decode prog_14_method_54_code 26 = .ok (.goto 20, 3) := by decide +kernel
theorem d_Md_told_29 : decode prog_14_method_54_code 29 = .ok (.aload_n 0, 1) := by decide +kernel
theorem d_Md_told_30 : decode prog_14_method_54_code 30 = .ok (.getfield 246, 3) := by decide +kernel
theorem d_Md_told_33 : decode prog_14_method_54_code 33 = .ok (.ifCond .eq 12, 3) := by decide +kernel
theorem d_Md_told_36 : decode prog_14_method_54_code 36 = .ok (.aload_n 0, 1) := by decide +kernel
theorem d_Md_told_37 : decode prog_14_method_54_code 37 = .ok (.getfield 25, 3) := by decide +kernel
theorem d_Md_told_40 : decode prog_14_method_54_code 40 = .ok (.iload_n 1, 1) := by decide +kernel
theorem d_Md_told_41 : decode prog_14_method_54_code 41 = .ok (.iaload, 1) := by decide +kernel
theorem d_Md_told_42 : decode prog_14_method_54_code 42 = .ok (.goto 4, 3) := by decide +kernel
theorem d_Md_told_45 : decode prog_14_method_54_code 45 = .ok (.iconst (-1), 1) := by decide +kernel
theorem d_Md_told_46 : decode prog_14_method_54_code 46 = .ok (.ireturn, 1) := by decide +kernel
theorem d_Md_segment_0 : decode prog_14_method_55_code 0 = .ok (.aload_n 0, 1) := by decide +kernel
theorem d_Md_segment_1 : decode prog_14_method_55_code 1 = .ok (.iload_n 2, 1) := by decide +kernel
theorem d_Md_segment_2 : decode prog_14_method_55_code 2 = .ok (.ifCond .lt 8, 3) := by decide +kernel
theorem d_Md_segment_5 : decode prog_14_method_55_code 5 = .ok (.iload_n 2, 1) := by decide +kernel
theorem d_Md_segment_6 : decode prog_14_method_55_code 6 = .ok (.iconst 1, 1) := by decide +kernel
theorem d_Md_segment_7 : decode prog_14_method_55_code 7 = .ok (.if_icmp .le 7, 3) := by decide +kernel
theorem d_Md_segment_10 : decode prog_14_method_55_code 10 = .ok (.iconst 1, 1) := by decide +kernel
theorem d_Md_segment_11 : decode prog_14_method_55_code 11 = .ok (.goto 4, 3) := by decide +kernel
theorem d_Md_segment_14 : decode prog_14_method_55_code 14 = .ok (.iconst 0, 1) := by decide +kernel
theorem d_Md_segment_15 : decode prog_14_method_55_code 15 = .ok (.putfield 73, 3) := by decide +kernel
theorem d_Md_segment_18 : decode prog_14_method_55_code 18 = .ok (.aload_n 0, 1) := by decide +kernel
theorem d_Md_segment_19 : decode prog_14_method_55_code 19 = .ok (.getfield 73, 3) := by decide +kernel
theorem d_Md_segment_22 : decode prog_14_method_55_code 22 = .ok (.ifCond .le 5, 3) := by decide +kernel
theorem d_Md_segment_25 : decode prog_14_method_55_code 25 = .ok (.iconst 0, 1) := by decide +kernel
theorem d_Md_segment_26 : decode prog_14_method_55_code 26 = .ok (.ireturn, 1) := by decide +kernel
theorem d_Md_segment_27 : decode prog_14_method_55_code 27 = .ok (.aload_n 0, 1) := by decide +kernel
theorem d_Md_segment_28 : decode prog_14_method_55_code 28 = .ok (.getfield 246, 3) := by decide +kernel
theorem d_Md_segment_31 : decode prog_14_method_55_code 31 = .ok (.ifCond .eq 15, 3) := by decide +kernel
theorem d_Md_segment_34 : decode prog_14_method_55_code 34 = .ok (.iload_n 1, 1) := by decide +kernel
theorem d_Md_segment_35 : decode prog_14_method_55_code 35 = .ok (.ifCond .lt 11, 3) := by decide +kernel
theorem d_Md_segment_38 : decode prog_14_method_55_code 38 = .ok (.iload_n 1, 1) := by decide +kernel
theorem d_Md_segment_39 : decode prog_14_method_55_code 39 = .ok (.aload_n 0, 1) := by decide +kernel
theorem d_Md_segment_40 : decode prog_14_method_55_code 40 = .ok (.getfield 127, 3) := by decide +kernel
theorem d_Md_segment_43 : decode prog_14_method_55_code 43 = .ok (.if_icmp .lt 7, 3) := by decide +kernel
theorem d_Md_segment_46 : decode prog_14_method_55_code 46 = .ok (.iconst (-1), 1) := by decide +kernel
theorem d_Md_segment_47 : decode prog_14_method_55_code 47 = .ok (.goto 22, 3) := by decide +kernel
theorem d_Md_segment_50 : decode prog_14_method_55_code 50 = .ok (.iload_n 2, 1) := by decide +kernel
theorem d_Md_segment_51 : decode prog_14_method_55_code 51 = .ok (.ifCond .ne 12, 3) := by decide +kernel
theorem d_Md_segment_54 : decode prog_14_method_55_code 54 = .ok (.aload_n 0, 1) := by decide +kernel
theorem d_Md_segment_55 : decode prog_14_method_55_code 55 = .ok (.getfield 28, 3) := by decide +kernel
theorem d_Md_segment_58 : decode prog_14_method_55_code 58 = .ok (.iload_n 1, 1) := by decide +kernel
theorem d_Md_segment_59 : decode prog_14_method_55_code 59 = .ok (.iaload, 1) := by decide +kernel
theorem d_Md_segment_60 : decode prog_14_method_55_code 60 = .ok (.goto 9, 3) := by decide +kernel
theorem d_Md_segment_63 : decode prog_14_method_55_code 63 = .ok (.aload_n 0, 1) := by decide +kernel
theorem d_Md_segment_64 : decode prog_14_method_55_code 64 = .ok (.getfield 31, 3) := by decide +kernel
theorem d_Md_segment_67 : decode prog_14_method_55_code 67 = .ok (.iload_n 1, 1) := by decide +kernel
theorem d_Md_segment_68 : decode prog_14_method_55_code 68 = .ok (.iaload, 1) := by decide +kernel
theorem d_Md_segment_69 : decode prog_14_method_55_code 69 = .ok (.ireturn, 1) := by decide +kernel
theorem d_Md_row_0 : decode prog_14_method_56_code 0 = .ok (.aload_n 0, 1) := by decide +kernel
theorem d_Md_row_1 : decode prog_14_method_56_code 1 = .ok (.iconst 0, 1) := by decide +kernel
theorem d_Md_row_2 : decode prog_14_method_56_code 2 = .ok (.putfield 73, 3) := by decide +kernel
theorem d_Md_row_5 : decode prog_14_method_56_code 5 = .ok (.lconst 0, 1) := by decide +kernel
theorem d_Md_row_6 : decode prog_14_method_56_code 6 = .ok (.lstore_n 3, 1) := by decide +kernel
theorem d_Md_row_7 : decode prog_14_method_56_code 7 = .ok (.iconst 0, 1) := by decide +kernel
theorem d_Md_row_8 : decode prog_14_method_56_code 8 = .ok (.istore 5, 2) := by decide +kernel
theorem d_Md_row_10 : decode prog_14_method_56_code 10 = .ok (.iload 5, 2) := by decide +kernel
theorem d_Md_row_12 : decode prog_14_method_56_code 12 = .ok (.bipush 64, 2) := by decide +kernel
theorem d_Md_row_14 : decode prog_14_method_56_code 14 = .ok (.if_icmp .ge 94, 3) := by decide +kernel
theorem d_Md_row_17 : decode prog_14_method_56_code 17 = .ok (.iload_n 1, 1) := by decide +kernel
theorem d_Md_row_18 : decode prog_14_method_56_code 18 = .ok (.i2l, 1) := by decide +kernel
theorem d_Md_row_19 : decode prog_14_method_56_code 19 = .ok (.iload 5, 2) := by decide +kernel
theorem d_Md_row_21 : decode prog_14_method_56_code 21 = .ok (.i2l, 1) := by decide +kernel
theorem d_Md_row_22 : decode prog_14_method_56_code 22 = .ok (.ladd, 1) := by decide +kernel
theorem d_Md_row_23 : decode prog_14_method_56_code 23 = .ok (.lstore 6, 2) := by decide +kernel
theorem d_Md_row_25 : decode prog_14_method_56_code 25 = .ok (.aload_n 0, 1) := by decide +kernel
theorem d_Md_row_26 : decode prog_14_method_56_code 26 = .ok (.getfield 229, 3) := by decide +kernel
theorem d_Md_row_29 : decode prog_14_method_56_code 29 = .ok (.ifCond .le 37, 3) := by decide +kernel
theorem d_Md_row_32 : decode prog_14_method_56_code 32 = .ok (.iload_n 2, 1) := by decide +kernel
theorem d_Md_row_33 : decode prog_14_method_56_code 33 = .ok (.ifCond .lt 33, 3) := by decide +kernel
theorem d_Md_row_36 : decode prog_14_method_56_code 36 = .ok (.iload_n 2, 1) := by decide +kernel
theorem d_Md_row_37 : decode prog_14_method_56_code 37 = .ok (.aload_n 0, 1) := by decide +kernel
theorem d_Md_row_38 : decode prog_14_method_56_code 38 = .ok (.getfield 163, 3) := by decide +kernel
theorem d_Md_row_41 : decode prog_14_method_56_code 41 = .ok (.if_icmp .ge 25, 3) := by decide +kernel
theorem d_Md_row_44 : decode prog_14_method_56_code 44 = .ok (.lload 6, 2) := by decide +kernel
theorem d_Md_row_46 : decode prog_14_method_56_code 46 = .ok (.lconst 0, 1) := by decide +kernel
theorem d_Md_row_47 : decode prog_14_method_56_code 47 = .ok (.lcmp, 1) := by decide +kernel
theorem d_Md_row_48 : decode prog_14_method_56_code 48 = .ok (.ifCond .lt 18, 3) := by decide +kernel
theorem d_Md_row_51 : decode prog_14_method_56_code 51 = .ok (.lload 6, 2) := by decide +kernel
theorem d_Md_row_53 : decode prog_14_method_56_code 53 = .ok (.aload_n 0, 1) := by decide +kernel
theorem d_Md_row_54 : decode prog_14_method_56_code 54 = .ok (.getfield 163, 3) := by decide +kernel
theorem d_Md_row_57 : decode prog_14_method_56_code 57 = .ok (.i2l, 1) := by decide +kernel
theorem d_Md_row_58 : decode prog_14_method_56_code 58 = .ok (.lcmp, 1) := by decide +kernel
theorem d_Md_row_59 : decode prog_14_method_56_code 59 = .ok (.ifCond .ge 7, 3) := by decide +kernel
theorem d_Md_row_62 : decode prog_14_method_56_code 62 = .ok (.iconst 1, 1) := by decide +kernel
theorem d_Md_row_63 : decode prog_14_method_56_code 63 = .ok (.goto 4, 3) := by decide +kernel
theorem d_Md_row_66 : decode prog_14_method_56_code 66 = .ok (.iconst 0, 1) := by decide +kernel
theorem d_Md_row_67 : decode prog_14_method_56_code 67 = .ok (.istore 8, 2) := by decide +kernel
theorem d_Md_row_69 : decode prog_14_method_56_code 69 = .ok (.iload 8, 2) := by decide +kernel
theorem d_Md_row_71 : decode prog_14_method_56_code 71 = .ok (.ifCond .eq 29, 3) := by decide +kernel
theorem d_Md_row_74 : decode prog_14_method_56_code 74 = .ok (.aload_n 0, 1) := by decide +kernel
theorem d_Md_row_75 : decode prog_14_method_56_code 75 = .ok (.getfield 19, 3) := by decide +kernel
theorem d_Md_row_78 : decode prog_14_method_56_code 78 = .ok (.aload_n 0, 1) := by decide +kernel
theorem d_Md_row_79 : decode prog_14_method_56_code 79 = .ok (.lload 6, 2) := by decide +kernel
theorem d_Md_row_81 : decode prog_14_method_56_code 81 = .ok (.l2i, 1) := by decide +kernel
theorem d_Md_row_82 : decode prog_14_method_56_code 82 = .ok (.iload_n 2, 1) := by decide +kernel
theorem d_Md_row_83 : decode prog_14_method_56_code 83 = .ok (.invokevirtual 166, 3) := by decide +kernel
theorem d_Md_row_86 : decode prog_14_method_56_code 86 = .ok (.iaload, 1) := by decide +kernel
theorem d_Md_row_87 : decode prog_14_method_56_code 87 = .ok (.iconst 1, 1) := by decide +kernel
theorem d_Md_row_88 : decode prog_14_method_56_code 88 = .ok (.if_icmp .ne 12, 3) := by decide +kernel
theorem d_Md_row_91 : decode prog_14_method_56_code 91 = .ok (.lload_n 3, 1) := by decide +kernel
theorem d_Md_row_92 : decode prog_14_method_56_code 92 = .ok (.lconst 1, 1) := by decide +kernel
theorem d_Md_row_93 : decode prog_14_method_56_code 93 = .ok (.iload 5, 2) := by decide +kernel
theorem d_Md_row_95 : decode prog_14_method_56_code 95 = .ok (.lshl, 1) := by decide +kernel
theorem d_Md_row_96 : decode prog_14_method_56_code 96 = .ok (.lor, 1) := by decide +kernel
theorem d_Md_row_97 : decode prog_14_method_56_code 97 = .ok (.goto 4, 3) := by decide +kernel
theorem d_Md_row_100 : decode prog_14_method_56_code 100 = .ok (.lload_n 3, 1) := by decide +kernel
theorem d_Md_row_101 : decode prog_14_method_56_code 101 = .ok (.lstore_n 3, 1) := by decide +kernel
theorem d_Md_row_102 : decode prog_14_method_56_code 102 = .ok (.iinc 5 1, 3) := by decide +kernel
theorem d_Md_row_105 : decode prog_14_method_56_code 105 = .ok (.goto (-95), 3) := by decide +kernel
theorem d_Md_row_108 : decode prog_14_method_56_code 108 = .ok (.lload_n 3, 1) := by decide +kernel
theorem d_Md_row_109 : decode prog_14_method_56_code 109 = .ok (.lreturn, 1) := by decide +kernel
theorem d_Md_spoil_0 : decode prog_14_method_57_code 0 = .ok (.aload_n 0, 1) := by decide +kernel
theorem d_Md_spoil_1 : decode prog_14_method_57_code 1 = .ok (.iconst 0, 1) := by decide +kernel
theorem d_Md_spoil_2 : decode prog_14_method_57_code 2 = .ok (.putfield 73, 3) := by decide +kernel
theorem d_Md_spoil_5 : decode prog_14_method_57_code 5 = .ok (.iconst 0, 1) := by decide +kernel
theorem d_Md_spoil_6 : decode prog_14_method_57_code 6 = .ok (.istore 5, 2) := by decide +kernel
theorem d_Md_spoil_8 : decode prog_14_method_57_code 8 = .ok (.iconst 0, 1) := by decide +kernel
theorem d_Md_spoil_9 : decode prog_14_method_57_code 9 = .ok (.istore 6, 2) := by decide +kernel
theorem d_Md_spoil_11 : decode prog_14_method_57_code 11 = .ok (.iload 6, 2) := by decide +kernel
theorem d_Md_spoil_13 : decode prog_14_method_57_code 13 = .ok (.bipush 64, 2) := by decide +kernel
theorem d_Md_spoil_15 : decode prog_14_method_57_code 15 = .ok (.if_icmp .ge 108, 3) := by decide +kernel
theorem d_Md_spoil_18 : decode prog_14_method_57_code 18 = .ok (.iload_n 1, 1) := by decide +kernel
theorem d_Md_spoil_19 : decode prog_14_method_57_code 19 = .ok (.i2l, 1) := by decide +kernel
theorem d_Md_spoil_20 : decode prog_14_method_57_code 20 = .ok (.iload 6, 2) := by decide +kernel
theorem d_Md_spoil_22 : decode prog_14_method_57_code 22 = .ok (.i2l, 1) := by decide +kernel
theorem d_Md_spoil_23 : decode prog_14_method_57_code 23 = .ok (.ladd, 1) := by decide +kernel
theorem d_Md_spoil_24 : decode prog_14_method_57_code 24 = .ok (.lstore 7, 2) := by decide +kernel
theorem d_Md_spoil_26 : decode prog_14_method_57_code 26 = .ok (.aload_n 0, 1) := by decide +kernel
theorem d_Md_spoil_27 : decode prog_14_method_57_code 27 = .ok (.getfield 229, 3) := by decide +kernel
theorem d_Md_spoil_30 : decode prog_14_method_57_code 30 = .ok (.ifCond .le 37, 3) := by decide +kernel
theorem d_Md_spoil_33 : decode prog_14_method_57_code 33 = .ok (.iload_n 2, 1) := by decide +kernel
theorem d_Md_spoil_34 : decode prog_14_method_57_code 34 = .ok (.ifCond .lt 33, 3) := by decide +kernel
theorem d_Md_spoil_37 : decode prog_14_method_57_code 37 = .ok (.iload_n 2, 1) := by decide +kernel
theorem d_Md_spoil_38 : decode prog_14_method_57_code 38 = .ok (.aload_n 0, 1) := by decide +kernel
theorem d_Md_spoil_39 : decode prog_14_method_57_code 39 = .ok (.getfield 163, 3) := by decide +kernel
theorem d_Md_spoil_42 : decode prog_14_method_57_code 42 = .ok (.if_icmp .ge 25, 3) := by decide +kernel
theorem d_Md_spoil_45 : decode prog_14_method_57_code 45 = .ok (.lload 7, 2) := by decide +kernel
theorem d_Md_spoil_47 : decode prog_14_method_57_code 47 = .ok (.lconst 0, 1) := by decide +kernel
theorem d_Md_spoil_48 : decode prog_14_method_57_code 48 = .ok (.lcmp, 1) := by decide +kernel
theorem d_Md_spoil_49 : decode prog_14_method_57_code 49 = .ok (.ifCond .lt 18, 3) := by decide +kernel
theorem d_Md_spoil_52 : decode prog_14_method_57_code 52 = .ok (.lload 7, 2) := by decide +kernel
theorem d_Md_spoil_54 : decode prog_14_method_57_code 54 = .ok (.aload_n 0, 1) := by decide +kernel
theorem d_Md_spoil_55 : decode prog_14_method_57_code 55 = .ok (.getfield 163, 3) := by decide +kernel
theorem d_Md_spoil_58 : decode prog_14_method_57_code 58 = .ok (.i2l, 1) := by decide +kernel
theorem d_Md_spoil_59 : decode prog_14_method_57_code 59 = .ok (.lcmp, 1) := by decide +kernel
theorem d_Md_spoil_60 : decode prog_14_method_57_code 60 = .ok (.ifCond .ge 7, 3) := by decide +kernel
theorem d_Md_spoil_63 : decode prog_14_method_57_code 63 = .ok (.iconst 1, 1) := by decide +kernel
theorem d_Md_spoil_64 : decode prog_14_method_57_code 64 = .ok (.goto 4, 3) := by decide +kernel
theorem d_Md_spoil_67 : decode prog_14_method_57_code 67 = .ok (.iconst 0, 1) := by decide +kernel
theorem d_Md_spoil_68 : decode prog_14_method_57_code 68 = .ok (.istore 9, 2) := by decide +kernel
theorem d_Md_spoil_70 : decode prog_14_method_57_code 70 = .ok (.iload 9, 2) := by decide +kernel
theorem d_Md_spoil_72 : decode prog_14_method_57_code 72 = .ok (.ifCond .eq 45, 3) := by decide +kernel
theorem d_Md_spoil_75 : decode prog_14_method_57_code 75 = .ok (.lload_n 3, 1) := by decide +kernel
theorem d_Md_spoil_76 : decode prog_14_method_57_code 76 = .ok (.iload 6, 2) := by decide +kernel
theorem d_Md_spoil_78 : decode prog_14_method_57_code 78 = .ok (.lshr, 1) := by decide +kernel
theorem d_Md_spoil_79 : decode prog_14_method_57_code 79 = .ok (.lconst 1, 1) := by decide +kernel
theorem d_Md_spoil_80 : decode prog_14_method_57_code 80 = .ok (.land, 1) := by decide +kernel
theorem d_Md_spoil_81 : decode prog_14_method_57_code 81 = .ok (.lconst 1, 1) := by decide +kernel
theorem d_Md_spoil_82 : decode prog_14_method_57_code 82 = .ok (.lcmp, 1) := by decide +kernel
theorem d_Md_spoil_83 : decode prog_14_method_57_code 83 = .ok (.ifCond .ne 34, 3) := by decide +kernel
theorem d_Md_spoil_86 : decode prog_14_method_57_code 86 = .ok (.aload_n 0, 1) := by decide +kernel
theorem d_Md_spoil_87 : decode prog_14_method_57_code 87 = .ok (.getfield 19, 3) := by decide +kernel
theorem d_Md_spoil_90 : decode prog_14_method_57_code 90 = .ok (.aload_n 0, 1) := by decide +kernel
theorem d_Md_spoil_91 : decode prog_14_method_57_code 91 = .ok (.lload 7, 2) := by decide +kernel
theorem d_Md_spoil_93 : decode prog_14_method_57_code 93 = .ok (.l2i, 1) := by decide +kernel
theorem d_Md_spoil_94 : decode prog_14_method_57_code 94 = .ok (.iload_n 2, 1) := by decide +kernel
theorem d_Md_spoil_95 : decode prog_14_method_57_code 95 = .ok (.invokevirtual 166, 3) := by decide +kernel
theorem d_Md_spoil_98 : decode prog_14_method_57_code 98 = .ok (.iconst 1, 1) := by decide +kernel
theorem d_Md_spoil_99 : decode prog_14_method_57_code 99 = .ok (.aload_n 0, 1) := by decide +kernel
theorem d_Md_spoil_100 : decode prog_14_method_57_code 100 = .ok (.getfield 19, 3) := by decide +kernel
theorem d_Md_spoil_103 : decode prog_14_method_57_code 103 = .ok (.aload_n 0, 1) := by decide +kernel
theorem d_Md_spoil_104 : decode prog_14_method_57_code 104 = .ok (.lload 7, 2) := by decide +kernel
theorem d_Md_spoil_106 : decode prog_14_method_57_code 106 = .ok (.l2i, 1) := by decide +kernel
theorem d_Md_spoil_107 : decode prog_14_method_57_code 107 = .ok (.iload_n 2, 1) := by decide +kernel
theorem d_Md_spoil_108 : decode prog_14_method_57_code 108 = .ok (.invokevirtual 166, 3) := by decide +kernel
theorem d_Md_spoil_111 : decode prog_14_method_57_code 111 = .ok (.iaload, 1) := by decide +kernel
theorem d_Md_spoil_112 : decode prog_14_method_57_code 112 = .ok (.isub, 1) := by decide +kernel
theorem d_Md_spoil_113 : decode prog_14_method_57_code 113 = .ok (.iastore, 1) := by decide +kernel
theorem d_Md_spoil_114 : decode prog_14_method_57_code 114 = .ok (.iinc 5 1, 3) := by decide +kernel
theorem d_Md_spoil_117 : decode prog_14_method_57_code 117 = .ok (.iinc 6 1, 3) := by decide +kernel
theorem d_Md_spoil_120 : decode prog_14_method_57_code 120 = .ok (.goto (-109), 3) := by decide +kernel
theorem d_Md_spoil_123 : decode prog_14_method_57_code 123 = .ok (.iload 5, 2) := by decide +kernel
theorem d_Md_spoil_125 : decode prog_14_method_57_code 125 = .ok (.ireturn, 1) := by decide +kernel
theorem d_Md_read_0 : decode prog_14_method_73_code 0 = .ok (.aload_n 0, 1) := by decide +kernel
theorem d_Md_read_1 : decode prog_14_method_73_code 1 = .ok (.iconst 0, 1) := by decide +kernel
theorem d_Md_read_2 : decode prog_14_method_73_code 2 = .ok (.putfield 73, 3) := by decide +kernel
theorem d_Md_read_5 : decode prog_14_method_73_code 5 = .ok (.aload_n 0, 1) := by decide +kernel
theorem d_Md_read_6 : decode prog_14_method_73_code 6 = .ok (.iconst 0, 1) := by decide +kernel
theorem d_Md_read_7 : decode prog_14_method_73_code 7 = .ok (.putfield 285, 3) := by decide +kernel
theorem d_Md_read_10 : decode prog_14_method_73_code 10 = .ok (.aload_n 0, 1) := by decide +kernel
theorem d_Md_read_11 : decode prog_14_method_73_code 11 = .ok (.getfield 229, 3) := by decide +kernel
theorem d_Md_read_14 : decode prog_14_method_73_code 14 = .ok (.ifCond .ne 5, 3) := by decide +kernel
theorem d_Md_read_17 : decode prog_14_method_73_code 17 = .ok (.iconst (-1), 1) := by decide +kernel
theorem d_Md_read_18 : decode prog_14_method_73_code 18 = .ok (.ireturn, 1) := by decide +kernel
theorem d_Md_read_19 : decode prog_14_method_73_code 19 = .ok (.aload_n 0, 1) := by decide +kernel
theorem d_Md_read_20 : decode prog_14_method_73_code 20 = .ok (.iconst 0, 1) := by decide +kernel
theorem d_Md_read_21 : decode prog_14_method_73_code 21 = .ok (.putfield 303, 3) := by decide +kernel
theorem d_Md_read_24 : decode prog_14_method_73_code 24 = .ok (.aload_n 0, 1) := by decide +kernel
theorem d_Md_read_25 : decode prog_14_method_73_code 25 = .ok (.invokevirtual 306, 3) := by decide +kernel
theorem d_Md_read_28 : decode prog_14_method_73_code 28 = .ok (.istore_n 1, 1) := by decide +kernel
theorem d_Md_read_29 : decode prog_14_method_73_code 29 = .ok (.iload_n 1, 1) := by decide +kernel
theorem d_Md_read_30 : decode prog_14_method_73_code 30 = .ok (.ifCond .ge 10, 3) := by decide +kernel
theorem d_Md_read_33 : decode prog_14_method_73_code 33 = .ok (.aload_n 0, 1) := by decide +kernel
theorem d_Md_read_34 : decode prog_14_method_73_code 34 = .ok (.iconst 1, 1) := by decide +kernel
theorem d_Md_read_35 : decode prog_14_method_73_code 35 = .ok (.putfield 285, 3) := by decide +kernel
theorem d_Md_read_38 : decode prog_14_method_73_code 38 = .ok (.iconst (-1), 1) := by decide +kernel
theorem d_Md_read_39 : decode prog_14_method_73_code 39 = .ok (.ireturn, 1) := by decide +kernel
theorem d_Md_read_40 : decode prog_14_method_73_code 40 = .ok (.iload_n 1, 1) := by decide +kernel
theorem d_Md_read_41 : decode prog_14_method_73_code 41 = .ok (.iconst 3, 1) := by decide +kernel
theorem d_Md_read_42 : decode prog_14_method_73_code 42 = .ok (.ishr, 1) := by decide +kernel
theorem d_Md_read_43 : decode prog_14_method_73_code 43 = .ok (.istore_n 2, 1) := by decide +kernel
theorem d_Md_read_44 : decode prog_14_method_73_code 44 = .ok (.iload_n 2, 1) := by decide +kernel
theorem d_Md_read_45 : decode prog_14_method_73_code 45 = .ok (.iconst 1, 1) := by decide +kernel
theorem d_Md_read_46 : decode prog_14_method_73_code 46 = .ok (.if_icmp .ne 7, 3) := by decide +kernel
theorem d_Md_read_49 : decode prog_14_method_73_code 49 = .ok (.iconst 0, 1) := by decide +kernel
theorem d_Md_read_50 : decode prog_14_method_73_code 50 = .ok (.goto 21, 3) := by decide +kernel
theorem d_Md_read_53 : decode prog_14_method_73_code 53 = .ok (.iload_n 2, 1) := by decide +kernel
theorem d_Md_read_54 : decode prog_14_method_73_code 54 = .ok (.ifCond .ne 7, 3) := by decide +kernel
theorem d_Md_read_57 : decode prog_14_method_73_code 57 = .ok (.iconst 1, 1) := by decide +kernel
theorem d_Md_read_58 : decode prog_14_method_73_code 58 = .ok (.goto 13, 3) := by decide +kernel
theorem d_Md_read_61 : decode prog_14_method_73_code 61 = .ok (.iload_n 2, 1) := by decide +kernel
theorem d_Md_read_62 : decode prog_14_method_73_code 62 = .ok (.iconst 3, 1) := by decide +kernel
theorem d_Md_read_63 : decode prog_14_method_73_code 63 = .ok (.if_icmp .ne 7, 3) := by decide +kernel
theorem d_Md_read_66 : decode prog_14_method_73_code 66 = .ok (.iconst 2, 1) := by decide +kernel
theorem d_Md_read_67 : decode prog_14_method_73_code 67 = .ok (.goto 4, 3) := by decide +kernel
theorem d_Md_read_70 : decode prog_14_method_73_code 70 = .ok (.iconst 3, 1) := by decide +kernel
theorem d_Md_read_71 : decode prog_14_method_73_code 71 = .ok (.istore_n 3, 1) := by decide +kernel
theorem d_Md_read_72 : decode prog_14_method_73_code 72 = .ok (.aload_n 0, 1) := by decide +kernel
theorem d_Md_read_73 : decode prog_14_method_73_code 73 = .ok (.iload_n 1, 1) := by decide +kernel
theorem d_Md_read_74 : decode prog_14_method_73_code 74 = .ok (.bipush 7, 2) := by decide +kernel
theorem d_Md_read_76 : decode prog_14_method_73_code 76 = .ok (.iand, 1) := by decide +kernel
theorem d_Md_read_77 : decode prog_14_method_73_code 77 = .ok (.iconst 1, 1) := by decide +kernel
theorem d_Md_read_78 : decode prog_14_method_73_code 78 = .ok (.aload_n 0, 1) := by decide +kernel
theorem d_Md_read_79 : decode prog_14_method_73_code 79 = .ok (.getfield 229, 3) := by decide +kernel
theorem d_Md_read_82 : decode prog_14_method_73_code 82 = .ok (.invokestatic 82, 3) := by decide +kernel
theorem d_Md_read_85 : decode prog_14_method_73_code 85 = .ok (.invokevirtual 238, 3) := by decide +kernel
theorem d_Md_read_88 : decode prog_14_method_73_code 88 = .ok (.aload_n 0, 1) := by decide +kernel
theorem d_Md_read_89 : decode prog_14_method_73_code 89 = .ok (.aload_n 0, 1) := by decide +kernel
theorem d_Md_read_90 : decode prog_14_method_73_code 90 = .ok (.getfield 229, 3) := by decide +kernel
theorem d_Md_read_93 : decode prog_14_method_73_code 93 = .ok (.iload_n 3, 1) := by decide +kernel
theorem d_Md_read_94 : decode prog_14_method_73_code 94 = .ok (.invokevirtual 309, 3) := by decide +kernel
theorem d_Md_read_97 : decode prog_14_method_73_code 97 = .ok (.istore 4, 2) := by decide +kernel
theorem d_Md_read_99 : decode prog_14_method_73_code 99 = .ok (.iload 4, 2) := by decide +kernel
theorem d_Md_read_101 : decode prog_14_method_73_code 101 = .ok (.ifCond .ge 10, 3) := by decide +kernel
theorem d_Md_read_104 : decode prog_14_method_73_code 104 = .ok (.aload_n 0, 1) := by decide +kernel
theorem d_Md_read_105 : decode prog_14_method_73_code 105 = .ok (.iconst 2, 1) := by decide +kernel
theorem d_Md_read_106 : decode prog_14_method_73_code 106 = .ok (.putfield 285, 3) := by decide +kernel
theorem d_Md_read_109 : decode prog_14_method_73_code 109 = .ok (.iconst (-1), 1) := by decide +kernel
theorem d_Md_read_110 : decode prog_14_method_73_code 110 = .ok (.ireturn, 1) := by decide +kernel
theorem d_Md_read_111 : decode prog_14_method_73_code 111 = .ok (.aload_n 0, 1) := by decide +kernel
theorem d_Md_read_112 : decode prog_14_method_73_code 112 = .ok (.iconst 0, 1) := by decide +kernel
theorem d_Md_read_113 : decode prog_14_method_73_code 113 = .ok (.putfield 279, 3) := by decide +kernel
theorem d_Md_read_116 : decode prog_14_method_73_code 116 = .ok (.aload_n 0, 1) := by decide +kernel
theorem d_Md_read_117 : decode prog_14_method_73_code 117 = .ok (.bipush 8, 2) := by decide +kernel
theorem d_Md_read_119 : decode prog_14_method_73_code 119 = .ok (.aload_n 0, 1) := by decide +kernel
theorem d_Md_read_120 : decode prog_14_method_73_code 120 = .ok (.aload_n 0, 1) := by decide +kernel
theorem d_Md_read_121 : decode prog_14_method_73_code 121 = .ok (.getfield 229, 3) := by decide +kernel
theorem d_Md_read_124 : decode prog_14_method_73_code 124 = .ok (.iload_n 3, 1) := by decide +kernel
theorem d_Md_read_125 : decode prog_14_method_73_code 125 = .ok (.invokevirtual 141, 3) := by decide +kernel
theorem d_Md_read_128 : decode prog_14_method_73_code 128 = .ok (.imul, 1) := by decide +kernel
theorem d_Md_read_129 : decode prog_14_method_73_code 129 = .ok (.putfield 282, 3) := by decide +kernel
theorem d_Md_read_132 : decode prog_14_method_73_code 132 = .ok (.aload_n 0, 1) := by decide +kernel
theorem d_Md_read_133 : decode prog_14_method_73_code 133 = .ok (.iconst 0, 1) := by decide +kernel
theorem d_Md_read_134 : decode prog_14_method_73_code 134 = .ok (.putfield 288, 3) := by decide +kernel
theorem d_Md_read_137 : decode prog_14_method_73_code 137 = .ok (.aload_n 0, 1) := by decide +kernel
theorem d_Md_read_138 : decode prog_14_method_73_code 138 = .ok (.aload_n 0, 1) := by decide +kernel
theorem d_Md_read_139 : decode prog_14_method_73_code 139 = .ok (.getfield 229, 3) := by decide +kernel
theorem d_Md_read_142 : decode prog_14_method_73_code 142 = .ok (.invokevirtual 312, 3) := by decide +kernel
theorem d_Md_read_145 : decode prog_14_method_73_code 145 = .ok (.aload_n 0, 1) := by decide +kernel
theorem d_Md_read_146 : decode prog_14_method_73_code 146 = .ok (.getfield 285, 3) := by decide +kernel
theorem d_Md_read_149 : decode prog_14_method_73_code 149 = .ok (.ifCond .le 5, 3) := by decide +kernel
theorem d_Md_read_152 : decode prog_14_method_73_code 152 = .ok (.iconst (-1), 1) := by decide +kernel
theorem d_Md_read_153 : decode prog_14_method_73_code 153 = .ok (.ireturn, 1) := by decide +kernel
theorem d_Md_read_154 : decode prog_14_method_73_code 154 = .ok (.aload_n 0, 1) := by decide +kernel
theorem d_Md_read_155 : decode prog_14_method_73_code 155 = .ok (.getfield 70, 3) := by decide +kernel
theorem d_Md_read_158 : decode prog_14_method_73_code 158 = .ok (.iconst 0, 1) := by decide +kernel
theorem d_Md_read_159 : decode prog_14_method_73_code 159 = .ok (.iload_n 3, 1) := by decide +kernel
theorem d_Md_read_160 : decode prog_14_method_73_code 160 = .ok (.iastore, 1) := by decide +kernel
theorem d_Md_read_161 : decode prog_14_method_73_code 161 = .ok (.aload_n 0, 1) := by decide +kernel
theorem d_Md_read_162 : decode prog_14_method_73_code 162 = .ok (.getfield 70, 3) := by decide +kernel
theorem d_Md_read_165 : decode prog_14_method_73_code 165 = .ok (.iconst 1, 1) := by decide +kernel
theorem d_Md_read_166 : decode prog_14_method_73_code 166 = .ok (.iload_n 1, 1) := by decide +kernel
theorem d_Md_read_167 : decode prog_14_method_73_code 167 = .ok (.bipush 7, 2) := by decide +kernel
theorem d_Md_read_169 : decode prog_14_method_73_code 169 = .ok (.iand, 1) := by decide +kernel
theorem d_Md_read_170 : decode prog_14_method_73_code 170 = .ok (.iastore, 1) := by decide +kernel
theorem d_Md_read_171 : decode prog_14_method_73_code 171 = .ok (.aload_n 0, 1) := by decide +kernel
theorem d_Md_read_172 : decode prog_14_method_73_code 172 = .ok (.getfield 70, 3) := by decide +kernel
theorem d_Md_read_175 : decode prog_14_method_73_code 175 = .ok (.iconst 2, 1) := by decide +kernel
theorem d_Md_read_176 : decode prog_14_method_73_code 176 = .ok (.iload 4, 2) := by decide +kernel
theorem d_Md_read_178 : decode prog_14_method_73_code 178 = .ok (.iastore, 1) := by decide +kernel
theorem d_Md_read_179 : decode prog_14_method_73_code 179 = .ok (.aload_n 0, 1) := by decide +kernel
theorem d_Md_read_180 : decode prog_14_method_73_code 180 = .ok (.iconst 1, 1) := by decide +kernel
theorem d_Md_read_181 : decode prog_14_method_73_code 181 = .ok (.putfield 303, 3) := by decide +kernel
theorem d_Md_read_184 : decode prog_14_method_73_code 184 = .ok (.aload_n 0, 1) := by decide +kernel
theorem d_Md_read_185 : decode prog_14_method_73_code 185 = .ok (.aload_n 0, 1) := by decide +kernel
theorem d_Md_read_186 : decode prog_14_method_73_code 186 = .ok (.getfield 288, 3) := by decide +kernel
theorem d_Md_read_189 : decode prog_14_method_73_code 189 = .ok (.putfield 77, 3) := by decide +kernel
theorem d_Md_read_192 : decode prog_14_method_73_code 192 = .ok (.iconst 0, 1) := by decide +kernel
theorem d_Md_read_193 : decode prog_14_method_73_code 193 = .ok (.istore 5, 2) := by decide +kernel
theorem d_Md_read_195 : decode prog_14_method_73_code 195 = .ok (.iload 5, 2) := by decide +kernel
theorem d_Md_read_197 : decode prog_14_method_73_code 197 = .ok (.aload_n 0, 1) := by decide +kernel
theorem d_Md_read_198 : decode prog_14_method_73_code 198 = .ok (.getfield 77, 3) := by decide +kernel
theorem d_Md_read_201 : decode prog_14_method_73_code 201 = .ok (.if_icmp .ge 23, 3) := by decide +kernel
theorem d_Md_read_204 : decode prog_14_method_73_code 204 = .ok (.aload_n 0, 1) := by decide +kernel
theorem d_Md_read_205 : decode prog_14_method_73_code 205 = .ok (.getfield 16, 3) := by decide +kernel
theorem d_Md_read_208 : decode prog_14_method_73_code 208 = .ok (.iload 5, 2) := by decide +kernel
theorem d_Md_read_210 : decode prog_14_method_73_code 210 = .ok (.aload_n 0, 1) := by decide +kernel
theorem d_Md_read_211 : decode prog_14_method_73_code 211 = .ok (.getfield 67, 3) := by decide +kernel
theorem d_Md_read_214 : decode prog_14_method_73_code 214 = .ok (.iload 5, 2) := by decide +kernel
theorem d_Md_read_216 : decode prog_14_method_73_code 216 = .ok (.iaload, 1) := by decide +kernel
theorem d_Md_read_217 : decode prog_14_method_73_code 217 = .ok (.iastore, 1) := by decide +kernel
theorem d_Md_read_218 : decode prog_14_method_73_code 218 = .ok (.iinc 5 1, 3) := by decide +kernel
theorem d_Md_read_221 : decode prog_14_method_73_code 221 = .ok (.goto (-26), 3) := by decide +kernel
theorem d_Md_read_224 : decode prog_14_method_73_code 224 = .ok (.aload_n 0, 1) := by decide +kernel
theorem d_Md_read_225 : decode prog_14_method_73_code 225 = .ok (.getfield 77, 3) := by decide +kernel
theorem d_Md_read_228 : decode prog_14_method_73_code 228 = .ok (.ireturn, 1) := by decide +kernel
theorem d_Md_formNumberRead_0 : decode prog_14_method_66_code 0 = .ok (.iconst 0, 1) := by decide +kernel
theorem d_Md_formNumberRead_1 : decode prog_14_method_66_code 1 = .ok (.istore_n 1, 1) := by decide +kernel
theorem d_Md_formNumberRead_2 : decode prog_14_method_66_code 2 = .ok (.iload_n 1, 1) := by decide +kernel
theorem d_Md_formNumberRead_3 : decode prog_14_method_66_code 3 = .ok (.iconst 2, 1) := by decide +kernel
theorem d_Md_formNumberRead_4 : decode prog_14_method_66_code 4 = .ok (.if_icmp .ge 53, 3) := by decide +kernel
theorem d_Md_formNumberRead_7 : decode prog_14_method_66_code 7 = .ok (.aload_n 0, 1) := by decide +kernel
theorem d_Md_formNumberRead_8 : decode prog_14_method_66_code 8 = .ok (.iload_n 1, 1) := by decide +kernel
theorem d_Md_formNumberRead_9 : decode prog_14_method_66_code 9 = .ok (.iconst 1, 1) := by decide +kernel
theorem d_Md_formNumberRead_10 : decode prog_14_method_66_code 10 = .ok (.if_icmp .ne 7, 3) := by decide +kernel
theorem d_Md_formNumberRead_13 : decode prog_14_method_66_code 13 = .ok (.iconst 1, 1) := by decide +kernel
theorem d_Md_formNumberRead_14 : decode prog_14_method_66_code 14 = .ok (.goto 4, 3) := by decide +kernel
theorem d_Md_formNumberRead_17 : decode prog_14_method_66_code 17 = .ok (.iconst 0, 1) := by decide +kernel
theorem d_Md_formNumberRead_18 : decode prog_14_method_66_code 18 = .ok (.invokevirtual 267, 3) := by decide +kernel
theorem d_Md_formNumberRead_21 : decode prog_14_method_66_code 21 = .ok (.istore_n 2, 1) := by decide +kernel
theorem d_Md_formNumberRead_22 : decode prog_14_method_66_code 22 = .ok (.iconst 0, 1) := by decide +kernel
theorem d_Md_formNumberRead_23 : decode prog_14_method_66_code 23 = .ok (.istore_n 3, 1) := by decide +kernel
theorem d_Md_formNumberRead_24 : decode prog_14_method_66_code 24 = .ok (.iload_n 3, 1) := by decide +kernel
theorem d_Md_formNumberRead_25 : decode prog_14_method_66_code 25 = .ok (.bipush 32, 2) := by decide +kernel
theorem d_Md_formNumberRead_27 : decode prog_14_method_66_code 27 = .ok (.if_icmp .ge 24, 3) := by decide +kernel
theorem d_Md_formNumberRead_30 : decode prog_14_method_66_code 30 = .ok (.iload_n 2, 1) := by decide +kernel
theorem d_Md_formNumberRead_31 : decode prog_14_method_66_code 31 = .ok (.iload_n 3, 1) := by decide +kernel
theorem d_Md_formNumberRead_32 : decode prog_14_method_66_code 32 = .ok (.invokestatic 175, 3) := by decide +kernel
theorem d_Md_formNumberRead_35 : decode prog_14_method_66_code 35 = .ok (.ixor, 1) := by decide +kernel
theorem d_Md_formNumberRead_36 : decode prog_14_method_66_code 36 = .ok (.invokestatic 270, 3) := by decide +kernel
theorem d_Md_formNumberRead_39 : decode prog_14_method_66_code 39 = .ok (.iconst 3, 1) := by decide +kernel
theorem d_Md_formNumberRead_40 : decode prog_14_method_66_code 40 = .ok (.if_icmp .gt 5, 3) := by decide +kernel
theorem d_Md_formNumberRead_43 : decode prog_14_method_66_code 43 = .ok (.iload_n 3, 1) := by decide +kernel
theorem d_Md_formNumberRead_44 : decode prog_14_method_66_code 44 = .ok (.ireturn, 1) := by decide +kernel
theorem d_Md_formNumberRead_45 : decode prog_14_method_66_code 45 = .ok (.iinc 3 1, 3) := by decide +kernel
theorem d_Md_formNumberRead_48 : decode prog_14_method_66_code 48 = .ok (.goto (-24), 3) := by decide +kernel
theorem d_Md_formNumberRead_51 : decode prog_14_method_66_code 51 = .ok (.iinc 1 1, 3) := by decide +kernel
theorem d_Md_formNumberRead_54 : decode prog_14_method_66_code 54 = .ok (.goto (-52), 3) := by decide +kernel
theorem d_Md_formNumberRead_57 : decode prog_14_method_66_code 57 = .ok (.iconst (-1), 1) := by decide +kernel
theorem d_Md_formNumberRead_58 : decode prog_14_method_66_code 58 = .ok (.ireturn, 1) := by decide +kernel
theorem d_Md_formBits_0 : decode prog_14_method_64_code 0 = .ok (.iconst 0, 1) := by decide +kernel
theorem d_Md_formBits_1 : decode prog_14_method_64_code 1 = .ok (.istore_n 2, 1) := by decide +kernel
theorem d_Md_formBits_2 : decode prog_14_method_64_code 2 = .ok (.iconst 0, 1) := by decide +kernel
theorem d_Md_formBits_3 : decode prog_14_method_64_code 3 = .ok (.istore_n 3, 1) := by decide +kernel
theorem d_Md_formBits_4 : decode prog_14_method_64_code 4 = .ok (.iload_n 3, 1) := by decide +kernel
theorem d_Md_formBits_5 : decode prog_14_method_64_code 5 = .ok (.bipush 15, 2) := by decide +kernel
theorem d_Md_formBits_7 : decode prog_14_method_64_code 7 = .ok (.if_icmp .ge 41, 3) := by decide +kernel
theorem d_Md_formBits_10 : decode prog_14_method_64_code 10 = .ok (.iload_n 2, 1) := by decide +kernel
theorem d_Md_formBits_11 : decode prog_14_method_64_code 11 = .ok (.aload_n 0, 1) := by decide +kernel
theorem d_Md_formBits_12 : decode prog_14_method_64_code 12 = .ok (.getfield 19, 3) := by decide +kernel
theorem d_Md_formBits_15 : decode prog_14_method_64_code 15 = .ok (.aload_n 0, 1) := by decide +kernel
theorem d_Md_formBits_16 : decode prog_14_method_64_code 16 = .ok (.iload_n 3, 1) := by decide +kernel
theorem d_Md_formBits_17 : decode prog_14_method_64_code 17 = .ok (.iload_n 1, 1) := by decide +kernel
theorem d_Md_formBits_18 : decode prog_14_method_64_code 18 = .ok (.aload_n 0, 1) := by decide +kernel
theorem d_Md_formBits_19 : decode prog_14_method_64_code 19 = .ok (.getfield 163, 3) := by decide +kernel
theorem d_Md_formBits_22 : decode prog_14_method_64_code 22 = .ok (.invokestatic 178, 3) := by decide +kernel
theorem d_Md_formBits_25 : decode prog_14_method_64_code 25 = .ok (.iload_n 3, 1) := by decide +kernel
theorem d_Md_formBits_26 : decode prog_14_method_64_code 26 = .ok (.iload_n 1, 1) := by decide +kernel
theorem d_Md_formBits_27 : decode prog_14_method_64_code 27 = .ok (.aload_n 0, 1) := by decide +kernel
theorem d_Md_formBits_28 : decode prog_14_method_64_code 28 = .ok (.getfield 163, 3) := by decide +kernel
theorem d_Md_formBits_31 : decode prog_14_method_64_code 31 = .ok (.invokestatic 182, 3) := by decide +kernel
theorem d_Md_formBits_34 : decode prog_14_method_64_code 34 = .ok (.invokevirtual 166, 3) := by decide +kernel
theorem d_Md_formBits_37 : decode prog_14_method_64_code 37 = .ok (.iaload, 1) := by decide +kernel
theorem d_Md_formBits_38 : decode prog_14_method_64_code 38 = .ok (.iload_n 3, 1) := by decide +kernel
theorem d_Md_formBits_39 : decode prog_14_method_64_code 39 = .ok (.ishl, 1) := by decide +kernel
theorem d_Md_formBits_40 : decode prog_14_method_64_code 40 = .ok (.ior, 1) := by decide +kernel
theorem d_Md_formBits_41 : decode prog_14_method_64_code 41 = .ok (.istore_n 2, 1) := by decide +kernel
theorem d_Md_formBits_42 : decode prog_14_method_64_code 42 = .ok (.iinc 3 1, 3) := by decide +kernel
theorem d_Md_formBits_45 : decode prog_14_method_64_code 45 = .ok (.goto (-41), 3) := by decide +kernel
theorem d_Md_formBits_48 : decode prog_14_method_64_code 48 = .ok (.iload_n 2, 1) := by decide +kernel
theorem d_Md_formBits_49 : decode prog_14_method_64_code 49 = .ok (.ireturn, 1) := by decide +kernel
theorem d_Md_ones_0 : decode prog_14_method_65_code 0 = .ok (.iconst 0, 1) := by decide +kernel
theorem d_Md_ones_1 : decode prog_14_method_65_code 1 = .ok (.istore_n 1, 1) := by decide +kernel
theorem d_Md_ones_2 : decode prog_14_method_65_code 2 = .ok (.iconst 0, 1) := by decide +kernel
theorem d_Md_ones_3 : decode prog_14_method_65_code 3 = .ok (.istore_n 2, 1) := by decide +kernel
theorem d_Md_ones_4 : decode prog_14_method_65_code 4 = .ok (.iload_n 2, 1) := by decide +kernel
theorem d_Md_ones_5 : decode prog_14_method_65_code 5 = .ok (.bipush 15, 2) := by decide +kernel
theorem d_Md_ones_7 : decode prog_14_method_65_code 7 = .ok (.if_icmp .ge 17, 3) := by decide +kernel
theorem d_Md_ones_10 : decode prog_14_method_65_code 10 = .ok (.iload_n 1, 1) := by decide +kernel
theorem d_Md_ones_11 : decode prog_14_method_65_code 11 = .ok (.iload_n 0, 1) := by decide +kernel
theorem d_Md_ones_12 : decode prog_14_method_65_code 12 = .ok (.iload_n 2, 1) := by decide +kernel
theorem d_Md_ones_13 : decode prog_14_method_65_code 13 = .ok (.ishr, 1) := by decide +kernel
theorem d_Md_ones_14 : decode prog_14_method_65_code 14 = .ok (.iconst 1, 1) := by decide +kernel
theorem d_Md_ones_15 : decode prog_14_method_65_code 15 = .ok (.iand, 1) := by decide +kernel
theorem d_Md_ones_16 : decode prog_14_method_65_code 16 = .ok (.iadd, 1) := by decide +kernel
theorem d_Md_ones_17 : decode prog_14_method_65_code 17 = .ok (.istore_n 1, 1) := by decide +kernel
theorem d_Md_ones_18 : decode prog_14_method_65_code 18 = .ok (.iinc 2 1, 3) := by decide +kernel
theorem d_Md_ones_21 : decode prog_14_method_65_code 21 = .ok (.goto (-17), 3) := by decide +kernel
theorem d_Md_ones_24 : decode prog_14_method_65_code 24 = .ok (.iload_n 1, 1) := by decide +kernel
theorem d_Md_ones_25 : decode prog_14_method_65_code 25 = .ok (.ireturn, 1) := by decide +kernel
theorem d_Md_allBlocks_0 : decode prog_14_method_68_code 0 = .ok (.aload_n 0, 1) := by decide +kernel
theorem d_Md_allBlocks_1 : decode prog_14_method_68_code 1 = .ok (.iload_n 1, 1) := by decide +kernel
theorem d_Md_allBlocks_2 : decode prog_14_method_68_code 2 = .ok (.iload_n 2, 1) := by decide +kernel
theorem d_Md_allBlocks_3 : decode prog_14_method_68_code 3 = .ok (.invokevirtual 86, 3) := by decide +kernel
theorem d_Md_allBlocks_6 : decode prog_14_method_68_code 6 = .ok (.istore_n 3, 1) := by decide +kernel
theorem d_Md_allBlocks_7 : decode prog_14_method_68_code 7 = .ok (.iconst 0, 1) := by decide +kernel
theorem d_Md_allBlocks_8 : decode prog_14_method_68_code 8 = .ok (.istore 4, 2) := by decide +kernel
theorem d_Md_allBlocks_10 : decode prog_14_method_68_code 10 = .ok (.iconst 0, 1) := by decide +kernel
theorem d_Md_allBlocks_11 : decode prog_14_method_68_code 11 = .ok (.istore 5, 2) := by decide +kernel
theorem d_Md_allBlocks_13 : decode prog_14_method_68_code 13 = .ok (.iload 5, 2) := by decide +kernel
theorem d_Md_allBlocks_15 : decode prog_14_method_68_code 15 = .ok (.aload_n 0, 1) := by decide +kernel
theorem d_Md_allBlocks_16 : decode prog_14_method_68_code 16 = .ok (.iload_n 1, 1) := by decide +kernel
theorem d_Md_allBlocks_17 : decode prog_14_method_68_code 17 = .ok (.iload_n 2, 1) := by decide +kernel
theorem d_Md_allBlocks_18 : decode prog_14_method_68_code 18 = .ok (.invokevirtual 90, 3) := by decide +kernel
theorem d_Md_allBlocks_21 : decode prog_14_method_68_code 21 = .ok (.if_icmp .ge 136, 3) := by decide +kernel
theorem d_Md_allBlocks_24 : decode prog_14_method_68_code 24 = .ok (.aload_n 0, 1) := by decide +kernel
theorem d_Md_allBlocks_25 : decode prog_14_method_68_code 25 = .ok (.iload_n 1, 1) := by decide +kernel
theorem d_Md_allBlocks_26 : decode prog_14_method_68_code 26 = .ok (.iload_n 2, 1) := by decide +kernel
theorem d_Md_allBlocks_27 : decode prog_14_method_68_code 27 = .ok (.iload 5, 2) := by decide +kernel
theorem d_Md_allBlocks_29 : decode prog_14_method_68_code 29 = .ok (.invokevirtual 150, 3) := by decide +kernel
theorem d_Md_allBlocks_32 : decode prog_14_method_68_code 32 = .ok (.istore 6, 2) := by decide +kernel
theorem d_Md_allBlocks_34 : decode prog_14_method_68_code 34 = .ok (.iconst 0, 1) := by decide +kernel
theorem d_Md_allBlocks_35 : decode prog_14_method_68_code 35 = .ok (.istore 7, 2) := by decide +kernel
theorem d_Md_allBlocks_37 : decode prog_14_method_68_code 37 = .ok (.iload 7, 2) := by decide +kernel
theorem d_Md_allBlocks_39 : decode prog_14_method_68_code 39 = .ok (.iload 6, 2) := by decide +kernel
theorem d_Md_allBlocks_41 : decode prog_14_method_68_code 41 = .ok (.iload_n 3, 1) := by decide +kernel
theorem d_Md_allBlocks_42 : decode prog_14_method_68_code 42 = .ok (.iadd, 1) := by decide +kernel
theorem d_Md_allBlocks_43 : decode prog_14_method_68_code 43 = .ok (.if_icmp .ge 31, 3) := by decide +kernel
theorem d_Md_allBlocks_46 : decode prog_14_method_68_code 46 = .ok (.aload_n 0, 1) := by decide +kernel
theorem d_Md_allBlocks_47 : decode prog_14_method_68_code 47 = .ok (.getfield 46, 3) := by decide +kernel
theorem d_Md_allBlocks_50 : decode prog_14_method_68_code 50 = .ok (.iload 7, 2) := by decide +kernel
theorem d_Md_allBlocks_52 : decode prog_14_method_68_code 52 = .ok (.aload_n 0, 1) := by decide +kernel
theorem d_Md_allBlocks_53 : decode prog_14_method_68_code 53 = .ok (.getfield 43, 3) := by decide +kernel
theorem d_Md_allBlocks_56 : decode prog_14_method_68_code 56 = .ok (.aload_n 0, 1) := by decide +kernel
theorem d_Md_allBlocks_57 : decode prog_14_method_68_code 57 = .ok (.iload_n 1, 1) := by decide +kernel
theorem d_Md_allBlocks_58 : decode prog_14_method_68_code 58 = .ok (.iload_n 2, 1) := by decide +kernel
theorem d_Md_allBlocks_59 : decode prog_14_method_68_code 59 = .ok (.iload 5, 2) := by decide +kernel
theorem d_Md_allBlocks_61 : decode prog_14_method_68_code 61 = .ok (.iload 7, 2) := by decide +kernel
theorem d_Md_allBlocks_63 : decode prog_14_method_68_code 63 = .ok (.invokevirtual 160, 3) := by decide +kernel
theorem d_Md_allBlocks_66 : decode prog_14_method_68_code 66 = .ok (.iaload, 1) := by decide +kernel
theorem d_Md_allBlocks_67 : decode prog_14_method_68_code 67 = .ok (.iastore, 1) := by decide +kernel
theorem d_Md_allBlocks_68 : decode prog_14_method_68_code 68 = .ok (.iinc 7 1, 3) := by decide +kernel
theorem d_Md_allBlocks_71 : decode prog_14_method_68_code 71 = .ok (.goto (-34), 3) := by decide +kernel
theorem d_Md_allBlocks_74 : decode prog_14_method_68_code 74 = .ok (.aload_n 0, 1) := by decide +kernel
theorem d_Md_allBlocks_75 : decode prog_14_method_68_code 75 = .ok (.iload 6, 2) := by decide +kernel
theorem d_Md_allBlocks_77 : decode prog_14_method_68_code 77 = .ok (.iload_n 3, 1) := by decide +kernel
theorem d_Md_allBlocks_78 : decode prog_14_method_68_code 78 = .ok (.iadd, 1) := by decide +kernel
theorem d_Md_allBlocks_79 : decode prog_14_method_68_code 79 = .ok (.iload_n 3, 1) := by decide +kernel
theorem d_Md_allBlocks_80 : decode prog_14_method_68_code 80 = .ok (.iload_n 3, 1) := by decide +kernel
theorem d_Md_allBlocks_81 : decode prog_14_method_68_code 81 = .ok (.iload_n 1, 1) := by decide +kernel
theorem d_Md_allBlocks_82 : decode prog_14_method_68_code 82 = .ok (.iload_n 2, 1) := by decide +kernel
theorem d_Md_allBlocks_83 : decode prog_14_method_68_code 83 = .ok (.invokestatic 273, 3) := by decide +kernel
theorem d_Md_allBlocks_86 : decode prog_14_method_68_code 86 = .ok (.isub, 1) := by decide +kernel
theorem d_Md_allBlocks_87 : decode prog_14_method_68_code 87 = .ok (.iconst 2, 1) := by decide +kernel
theorem d_Md_allBlocks_88 : decode prog_14_method_68_code 88 = .ok (.idiv, 1) := by decide +kernel
theorem d_Md_allBlocks_89 : decode prog_14_method_68_code 89 = .ok (.invokevirtual 276, 3) := by decide +kernel
theorem d_Md_allBlocks_92 : decode prog_14_method_68_code 92 = .ok (.istore 7, 2) := by decide +kernel
theorem d_Md_allBlocks_94 : decode prog_14_method_68_code 94 = .ok (.iload 7, 2) := by decide +kernel
theorem d_Md_allBlocks_96 : decode prog_14_method_68_code 96 = .ok (.ifCond .ge 5, 3) := by decide +kernel
theorem d_Md_allBlocks_99 : decode prog_14_method_68_code 99 = .ok (.iconst (-1), 1) := by decide +kernel
theorem d_Md_allBlocks_100 : decode prog_14_method_68_code 100 = .ok (.ireturn, 1) := by decide +kernel
theorem d_Md_allBlocks_101 : decode prog_14_method_68_code 101 = .ok (.iload 4, 2) := by decide +kernel
theorem d_Md_allBlocks_103 : decode prog_14_method_68_code 103 = .ok (.iload 7, 2) := by decide +kernel
theorem d_Md_allBlocks_105 : decode prog_14_method_68_code 105 = .ok (.iadd, 1) := by decide +kernel
theorem d_Md_allBlocks_106 : decode prog_14_method_68_code 106 = .ok (.istore 4, 2) := by decide +kernel
theorem d_Md_allBlocks_108 : decode prog_14_method_68_code 108 = .ok (.aload_n 0, 1) := by decide +kernel
theorem d_Md_allBlocks_109 : decode prog_14_method_68_code 109 = .ok (.iload_n 1, 1) := by decide +kernel
theorem d_Md_allBlocks_110 : decode prog_14_method_68_code 110 = .ok (.iload_n 2, 1) := by decide +kernel
theorem d_Md_allBlocks_111 : decode prog_14_method_68_code 111 = .ok (.iload 5, 2) := by decide +kernel
theorem d_Md_allBlocks_113 : decode prog_14_method_68_code 113 = .ok (.invokevirtual 157, 3) := by decide +kernel
theorem d_Md_allBlocks_116 : decode prog_14_method_68_code 116 = .ok (.istore 8, 2) := by decide +kernel
theorem d_Md_allBlocks_118 : decode prog_14_method_68_code 118 = .ok (.iconst 0, 1) := by decide +kernel
theorem d_Md_allBlocks_119 : decode prog_14_method_68_code 119 = .ok (.istore 9, 2) := by decide +kernel
theorem d_Md_allBlocks_121 : decode prog_14_method_68_code 121 = .ok (.iload 9, 2) := by decide +kernel
theorem d_Md_allBlocks_123 : decode prog_14_method_68_code 123 = .ok (.iload 6, 2) := by decide +kernel
theorem d_Md_allBlocks_125 : decode prog_14_method_68_code 125 = .ok (.if_icmp .ge 26, 3) := by decide +kernel
theorem d_Md_allBlocks_128 : decode prog_14_method_68_code 128 = .ok (.aload_n 0, 1) := by decide +kernel
theorem d_Md_allBlocks_129 : decode prog_14_method_68_code 129 = .ok (.getfield 40, 3) := by decide +kernel
theorem d_Md_allBlocks_132 : decode prog_14_method_68_code 132 = .ok (.iload 8, 2) := by decide +kernel
theorem d_Md_allBlocks_134 : decode prog_14_method_68_code 134 = .ok (.iload 9, 2) := by decide +kernel
theorem d_Md_allBlocks_136 : decode prog_14_method_68_code 136 = .ok (.iadd, 1) := by decide +kernel
theorem d_Md_allBlocks_137 : decode prog_14_method_68_code 137 = .ok (.aload_n 0, 1) := by decide +kernel
theorem d_Md_allBlocks_138 : decode prog_14_method_68_code 138 = .ok (.getfield 46, 3) := by decide +kernel
theorem d_Md_allBlocks_141 : decode prog_14_method_68_code 141 = .ok (.iload 9, 2) := by decide +kernel
theorem d_Md_allBlocks_143 : decode prog_14_method_68_code 143 = .ok (.iaload, 1) := by decide +kernel
theorem d_Md_allBlocks_144 : decode prog_14_method_68_code 144 = .ok (.iastore, 1) := by decide +kernel
theorem d_Md_allBlocks_145 : decode prog_14_method_68_code 145 = .ok (.iinc 9 1, 3) := by decide +kernel
theorem d_Md_allBlocks_148 : decode prog_14_method_68_code 148 = .ok (.goto (-27), 3) := by decide +kernel
theorem d_Md_allBlocks_151 : decode prog_14_method_68_code 151 = .ok (.iinc 5 1, 3) := by decide +kernel
theorem d_Md_allBlocks_154 : decode prog_14_method_68_code 154 = .ok (.goto (-141), 3) := by decide +kernel
theorem d_Md_allBlocks_157 : decode prog_14_method_68_code 157 = .ok (.iload 4, 2) := by decide +kernel
theorem d_Md_allBlocks_159 : decode prog_14_method_68_code 159 = .ok (.ireturn, 1) := by decide +kernel
theorem d_Md_spared_0 : decode prog_14_method_67_code 0 = .ok (.iload_n 0, 1) := by decide +kernel
theorem d_Md_spared_1 : decode prog_14_method_67_code 1 = .ok (.iconst 1, 1) := by decide +kernel
theorem d_Md_spared_2 : decode prog_14_method_67_code 2 = .ok (.if_icmp .ne 22, 3) := by decide +kernel
theorem d_Md_spared_5 : decode prog_14_method_67_code 5 = .ok (.iload_n 1, 1) := by decide +kernel
theorem d_Md_spared_6 : decode prog_14_method_67_code 6 = .ok (.ifCond .ne 7, 3) := by decide +kernel
theorem d_Md_spared_9 : decode prog_14_method_67_code 9 = .ok (.iconst 3, 1) := by decide +kernel
theorem d_Md_spared_10 : decode prog_14_method_67_code 10 = .ok (.goto 13, 3) := by decide +kernel
theorem d_Md_spared_13 : decode prog_14_method_67_code 13 = .ok (.iload_n 1, 1) := by decide +kernel
theorem d_Md_spared_14 : decode prog_14_method_67_code 14 = .ok (.iconst 1, 1) := by decide +kernel
theorem d_Md_spared_15 : decode prog_14_method_67_code 15 = .ok (.if_icmp .ne 7, 3) := by decide +kernel
theorem d_Md_spared_18 : decode prog_14_method_67_code 18 = .ok (.iconst 2, 1) := by decide +kernel
theorem d_Md_spared_19 : decode prog_14_method_67_code 19 = .ok (.goto 4, 3) := by decide +kernel
theorem d_Md_spared_22 : decode prog_14_method_67_code 22 = .ok (.iconst 1, 1) := by decide +kernel
theorem d_Md_spared_23 : decode prog_14_method_67_code 23 = .ok (.ireturn, 1) := by decide +kernel
theorem d_Md_spared_24 : decode prog_14_method_67_code 24 = .ok (.iload_n 1, 1) := by decide +kernel
theorem d_Md_spared_25 : decode prog_14_method_67_code 25 = .ok (.ifCond .le 7, 3) := by decide +kernel
theorem d_Md_spared_28 : decode prog_14_method_67_code 28 = .ok (.iconst 0, 1) := by decide +kernel
theorem d_Md_spared_29 : decode prog_14_method_67_code 29 = .ok (.goto 22, 3) := by decide +kernel
theorem d_Md_spared_32 : decode prog_14_method_67_code 32 = .ok (.iload_n 0, 1) := by decide +kernel
theorem d_Md_spared_33 : decode prog_14_method_67_code 33 = .ok (.iconst 2, 1) := by decide +kernel
theorem d_Md_spared_34 : decode prog_14_method_67_code 34 = .ok (.if_icmp .ne 7, 3) := by decide +kernel
theorem d_Md_spared_37 : decode prog_14_method_67_code 37 = .ok (.iconst 2, 1) := by decide +kernel
theorem d_Md_spared_38 : decode prog_14_method_67_code 38 = .ok (.goto 13, 3) := by decide +kernel
theorem d_Md_spared_41 : decode prog_14_method_67_code 41 = .ok (.iload_n 0, 1) := by decide +kernel
theorem d_Md_spared_42 : decode prog_14_method_67_code 42 = .ok (.iconst 3, 1) := by decide +kernel
theorem d_Md_spared_43 : decode prog_14_method_67_code 43 = .ok (.if_icmp .ne 7, 3) := by decide +kernel
theorem d_Md_spared_46 : decode prog_14_method_67_code 46 = .ok (.iconst 1, 1) := by decide +kernel
theorem d_Md_spared_47 : decode prog_14_method_67_code 47 = .ok (.goto 4, 3) := by decide +kernel
theorem d_Md_spared_50 : decode prog_14_method_67_code 50 = .ok (.iconst 0, 1) := by decide +kernel
theorem d_Md_spared_51 : decode prog_14_method_67_code 51 = .ok (.ireturn, 1) := by decide +kernel
theorem d_Md_correct_0 : decode prog_14_method_63_code 0 = .ok (.aload_n 0, 1) := by decide +kernel
theorem d_Md_correct_1 : decode prog_14_method_63_code 1 = .ok (.aload_n 0, 1) := by decide +kernel
theorem d_Md_correct_2 : decode prog_14_method_63_code 2 = .ok (.getfield 46, 3) := by decide +kernel
theorem d_Md_correct_5 : decode prog_14_method_63_code 5 = .ok (.iload_n 1, 1) := by decide +kernel
theorem d_Md_correct_6 : decode prog_14_method_63_code 6 = .ok (.iload_n 2, 1) := by decide +kernel
theorem d_Md_correct_7 : decode prog_14_method_63_code 7 = .ok (.invokevirtual 257, 3) := by decide +kernel
theorem d_Md_correct_10 : decode prog_14_method_63_code 10 = .ok (.ifCond .eq 5, 3) := by decide +kernel
theorem d_Md_correct_13 : decode prog_14_method_63_code 13 = .ok (.iconst 0, 1) := by decide +kernel
theorem d_Md_correct_14 : decode prog_14_method_63_code 14 = .ok (.ireturn, 1) := by decide +kernel
theorem d_Md_correct_15 : decode prog_14_method_63_code 15 = .ok (.iconst 1, 1) := by decide +kernel
theorem d_Md_correct_16 : decode prog_14_method_63_code 16 = .ok (.istore 4, 2) := by decide +kernel
theorem d_Md_correct_18 : decode prog_14_method_63_code 18 = .ok (.iload 4, 2) := by decide +kernel
theorem d_Md_correct_20 : decode prog_14_method_63_code 20 = .ok (.iload_n 3, 1) := by decide +kernel
theorem d_Md_correct_21 : decode prog_14_method_63_code 21 = .ok (.if_icmp .gt 86, 3) := by decide +kernel
theorem d_Md_correct_24 : decode prog_14_method_63_code 24 = .ok (.aload_n 0, 1) := by decide +kernel
theorem d_Md_correct_25 : decode prog_14_method_63_code 25 = .ok (.aload_n 0, 1) := by decide +kernel
theorem d_Md_correct_26 : decode prog_14_method_63_code 26 = .ok (.getfield 46, 3) := by decide +kernel
theorem d_Md_correct_29 : decode prog_14_method_63_code 29 = .ok (.iload_n 1, 1) := by decide +kernel
theorem d_Md_correct_30 : decode prog_14_method_63_code 30 = .ok (.iload_n 2, 1) := by decide +kernel
theorem d_Md_correct_31 : decode prog_14_method_63_code 31 = .ok (.invokevirtual 257, 3) := by decide +kernel
theorem d_Md_correct_34 : decode prog_14_method_63_code 34 = .ok (.istore 5, 2) := by decide +kernel
theorem d_Md_correct_36 : decode prog_14_method_63_code 36 = .ok (.aload_n 0, 1) := by decide +kernel
theorem d_Md_correct_37 : decode prog_14_method_63_code 37 = .ok (.iload 4, 2) := by decide +kernel
theorem d_Md_correct_39 : decode prog_14_method_63_code 39 = .ok (.iload_n 1, 1) := by decide +kernel
theorem d_Md_correct_40 : decode prog_14_method_63_code 40 = .ok (.invokevirtual 261, 3) := by decide +kernel
theorem d_Md_correct_43 : decode prog_14_method_63_code 43 = .ok (.ifCond .eq 58, 3) := by decide +kernel
theorem d_Md_correct_46 : decode prog_14_method_63_code 46 = .ok (.aload_n 0, 1) := by decide +kernel
theorem d_Md_correct_47 : decode prog_14_method_63_code 47 = .ok (.iload 4, 2) := by decide +kernel
theorem d_Md_correct_49 : decode prog_14_method_63_code 49 = .ok (.iload_n 1, 1) := by decide +kernel
theorem d_Md_correct_50 : decode prog_14_method_63_code 50 = .ok (.invokevirtual 264, 3) := by decide +kernel
theorem d_Md_correct_53 : decode prog_14_method_63_code 53 = .ok (.ifCond .eq 48, 3) := by decide +kernel
theorem d_Md_correct_56 : decode prog_14_method_63_code 56 = .ok (.aload_n 0, 1) := by decide +kernel
theorem d_Md_correct_57 : decode prog_14_method_63_code 57 = .ok (.aload_n 0, 1) := by decide +kernel
theorem d_Md_correct_58 : decode prog_14_method_63_code 58 = .ok (.getfield 49, 3) := by decide +kernel
theorem d_Md_correct_61 : decode prog_14_method_63_code 61 = .ok (.iload_n 1, 1) := by decide +kernel
theorem d_Md_correct_62 : decode prog_14_method_63_code 62 = .ok (.iload_n 2, 1) := by decide +kernel
theorem d_Md_correct_63 : decode prog_14_method_63_code 63 = .ok (.invokevirtual 257, 3) := by decide +kernel
theorem d_Md_correct_66 : decode prog_14_method_63_code 66 = .ok (.ifCond .eq 35, 3) := by decide +kernel
theorem d_Md_correct_69 : decode prog_14_method_63_code 69 = .ok (.iconst 0, 1) := by decide +kernel
theorem d_Md_correct_70 : decode prog_14_method_63_code 70 = .ok (.istore 6, 2) := by decide +kernel
theorem d_Md_correct_72 : decode prog_14_method_63_code 72 = .ok (.iload 6, 2) := by decide +kernel
theorem d_Md_correct_74 : decode prog_14_method_63_code 74 = .ok (.iload_n 1, 1) := by decide +kernel
theorem d_Md_correct_75 : decode prog_14_method_63_code 75 = .ok (.if_icmp .ge 23, 3) := by decide +kernel
theorem d_Md_correct_78 : decode prog_14_method_63_code 78 = .ok (.aload_n 0, 1) := by decide +kernel
theorem d_Md_correct_79 : decode prog_14_method_63_code 79 = .ok (.getfield 46, 3) := by decide +kernel
theorem d_Md_correct_82 : decode prog_14_method_63_code 82 = .ok (.iload 6, 2) := by decide +kernel
theorem d_Md_correct_84 : decode prog_14_method_63_code 84 = .ok (.aload_n 0, 1) := by decide +kernel
theorem d_Md_correct_85 : decode prog_14_method_63_code 85 = .ok (.getfield 49, 3) := by decide +kernel
theorem d_Md_correct_88 : decode prog_14_method_63_code 88 = .ok (.iload 6, 2) := by decide +kernel
theorem d_Md_correct_90 : decode prog_14_method_63_code 90 = .ok (.iaload, 1) := by decide +kernel
theorem d_Md_correct_91 : decode prog_14_method_63_code 91 = .ok (.iastore, 1) := by decide +kernel
theorem d_Md_correct_92 : decode prog_14_method_63_code 92 = .ok (.iinc 6 1, 3) := by decide +kernel
theorem d_Md_correct_95 : decode prog_14_method_63_code 95 = .ok (.goto (-23), 3) := by decide +kernel
theorem d_Md_correct_98 : decode prog_14_method_63_code 98 = .ok (.iload 4, 2) := by decide +kernel
theorem d_Md_correct_100 : decode prog_14_method_63_code 100 = .ok (.ireturn, 1) := by decide +kernel
theorem d_Md_correct_101 : decode prog_14_method_63_code 101 = .ok (.iinc 4 1, 3) := by decide +kernel
theorem d_Md_correct_104 : decode prog_14_method_63_code 104 = .ok (.goto (-86), 3) := by decide +kernel
theorem d_Md_correct_107 : decode prog_14_method_63_code 107 = .ok (.iconst (-1), 1) := by decide +kernel
theorem d_Md_correct_108 : decode prog_14_method_63_code 108 = .ok (.ireturn, 1) := by decide +kernel
theorem d_Md_isZero_0 : decode prog_14_method_58_code 0 = .ok (.iconst 1, 1) := by decide +kernel
theorem d_Md_isZero_1 : decode prog_14_method_58_code 1 = .ok (.istore 4, 2) := by decide +kernel
theorem d_Md_isZero_3 : decode prog_14_method_58_code 3 = .ok (.iconst 0, 1) := by decide +kernel
theorem d_Md_isZero_4 : decode prog_14_method_58_code 4 = .ok (.istore 5, 2) := by decide +kernel
theorem d_Md_isZero_6 : decode prog_14_method_58_code 6 = .ok (.iload 5, 2) := by decide +kernel
theorem d_Md_isZero_8 : decode prog_14_method_58_code 8 = .ok (.iload_n 3, 1) := by decide +kernel
theorem d_Md_isZero_9 : decode prog_14_method_58_code 9 = .ok (.if_icmp .ge 74, 3) := by decide +kernel
theorem d_Md_isZero_12 : decode prog_14_method_58_code 12 = .ok (.iload 5, 2) := by decide +kernel
theorem d_Md_isZero_14 : decode prog_14_method_58_code 14 = .ok (.invokestatic 144, 3) := by decide +kernel
theorem d_Md_isZero_17 : decode prog_14_method_58_code 17 = .ok (.istore 6, 2) := by decide +kernel
theorem d_Md_isZero_19 : decode prog_14_method_58_code 19 = .ok (.iconst 0, 1) := by decide +kernel
theorem d_Md_isZero_20 : decode prog_14_method_58_code 20 = .ok (.istore 7, 2) := by decide +kernel
theorem d_Md_isZero_22 : decode prog_14_method_58_code 22 = .ok (.iconst 0, 1) := by decide +kernel
theorem d_Md_isZero_23 : decode prog_14_method_58_code 23 = .ok (.istore 8, 2) := by decide +kernel
theorem d_Md_isZero_25 : decode prog_14_method_58_code 25 = .ok (.iload 8, 2) := by decide +kernel
theorem d_Md_isZero_27 : decode prog_14_method_58_code 27 = .ok (.iload_n 2, 1) := by decide +kernel
theorem d_Md_isZero_28 : decode prog_14_method_58_code 28 = .ok (.if_icmp .ge 23, 3) := by decide +kernel
theorem d_Md_isZero_31 : decode prog_14_method_58_code 31 = .ok (.iload 7, 2) := by decide +kernel
theorem d_Md_isZero_33 : decode prog_14_method_58_code 33 = .ok (.iload 6, 2) := by decide +kernel
theorem d_Md_isZero_35 : decode prog_14_method_58_code 35 = .ok (.invokestatic 147, 3) := by decide +kernel
theorem d_Md_isZero_38 : decode prog_14_method_58_code 38 = .ok (.aload_n 1, 1) := by decide +kernel
theorem d_Md_isZero_39 : decode prog_14_method_58_code 39 = .ok (.iload 8, 2) := by decide +kernel
theorem d_Md_isZero_41 : decode prog_14_method_58_code 41 = .ok (.iaload, 1) := by decide +kernel
theorem d_Md_isZero_42 : decode prog_14_method_58_code 42 = .ok (.ixor, 1) := by decide +kernel
theorem d_Md_isZero_43 : decode prog_14_method_58_code 43 = .ok (.istore 7, 2) := by decide +kernel
theorem d_Md_isZero_45 : decode prog_14_method_58_code 45 = .ok (.iinc 8 1, 3) := by decide +kernel
theorem d_Md_isZero_48 : decode prog_14_method_58_code 48 = .ok (.goto (-23), 3) := by decide +kernel
theorem d_Md_isZero_51 : decode prog_14_method_58_code 51 = .ok (.aload_n 0, 1) := by decide +kernel
theorem d_Md_isZero_52 : decode prog_14_method_58_code 52 = .ok (.getfield 52, 3) := by decide +kernel
theorem d_Md_isZero_55 : decode prog_14_method_58_code 55 = .ok (.iload 5, 2) := by decide +kernel
theorem d_Md_isZero_57 : decode prog_14_method_58_code 57 = .ok (.iload 7, 2) := by decide +kernel
theorem d_Md_isZero_59 : decode prog_14_method_58_code 59 = .ok (.iastore, 1) := by decide +kernel
theorem d_Md_isZero_60 : decode prog_14_method_58_code 60 = .ok (.iload 4, 2) := by decide +kernel
theorem d_Md_isZero_62 : decode prog_14_method_58_code 62 = .ok (.ifCond .eq 12, 3) := by decide +kernel
theorem d_Md_isZero_65 : decode prog_14_method_58_code 65 = .ok (.iload 7, 2) := by decide +kernel
theorem d_Md_isZero_67 : decode prog_14_method_58_code 67 = .ok (.ifCond .ne 7, 3) := by decide +kernel
theorem d_Md_isZero_70 : decode prog_14_method_58_code 70 = .ok (.iconst 1, 1) := by decide +kernel
theorem d_Md_isZero_71 : decode prog_14_method_58_code 71 = .ok (.goto 4, 3) := by decide +kernel
theorem d_Md_isZero_74 : decode prog_14_method_58_code 74 = .ok (.iconst 0, 1) := by decide +kernel
theorem d_Md_isZero_75 : decode prog_14_method_58_code 75 = .ok (.istore 4, 2) := by decide +kernel
theorem d_Md_isZero_77 : decode prog_14_method_58_code 77 = .ok (.iinc 5 1, 3) := by decide +kernel
theorem d_Md_isZero_80 : decode prog_14_method_58_code 80 = .ok (.goto (-74), 3) := by decide +kernel
theorem d_Md_isZero_83 : decode prog_14_method_58_code 83 = .ok (.iload 4, 2) := by decide +kernel
theorem d_Md_isZero_85 : decode prog_14_method_58_code 85 = .ok (.ireturn, 1) := by decide +kernel
theorem d_Md_finds_0 : decode prog_14_method_61_code 0 = .ok (.iconst 0, 1) := by decide +kernel
theorem d_Md_finds_1 : decode prog_14_method_61_code 1 = .ok (.istore_n 3, 1) := by decide +kernel
theorem d_Md_finds_2 : decode prog_14_method_61_code 2 = .ok (.iload_n 3, 1) := by decide +kernel
theorem d_Md_finds_3 : decode prog_14_method_61_code 3 = .ok (.iload_n 1, 1) := by decide +kernel
theorem d_Md_finds_4 : decode prog_14_method_61_code 4 = .ok (.if_icmp .ge 68, 3) := by decide +kernel
theorem d_Md_finds_7 : decode prog_14_method_61_code 7 = .ok (.iconst 0, 1) := by decide +kernel
theorem d_Md_finds_8 : decode prog_14_method_61_code 8 = .ok (.istore 4, 2) := by decide +kernel
theorem d_Md_finds_10 : decode prog_14_method_61_code 10 = .ok (.iload 4, 2) := by decide +kernel
theorem d_Md_finds_12 : decode prog_14_method_61_code 12 = .ok (.iload_n 1, 1) := by decide +kernel
theorem d_Md_finds_13 : decode prog_14_method_61_code 13 = .ok (.if_icmp .ge 34, 3) := by decide +kernel
theorem d_Md_finds_16 : decode prog_14_method_61_code 16 = .ok (.aload_n 0, 1) := by decide +kernel
theorem d_Md_finds_17 : decode prog_14_method_61_code 17 = .ok (.getfield 55, 3) := by decide +kernel
theorem d_Md_finds_20 : decode prog_14_method_61_code 20 = .ok (.bipush 17, 2) := by decide +kernel
theorem d_Md_finds_22 : decode prog_14_method_61_code 22 = .ok (.iload_n 3, 1) := by decide +kernel
theorem d_Md_finds_23 : decode prog_14_method_61_code 23 = .ok (.imul, 1) := by decide +kernel
theorem d_Md_finds_24 : decode prog_14_method_61_code 24 = .ok (.iload 4, 2) := by decide +kernel
theorem d_Md_finds_26 : decode prog_14_method_61_code 26 = .ok (.iadd, 1) := by decide +kernel
theorem d_Md_finds_27 : decode prog_14_method_61_code 27 = .ok (.aload_n 0, 1) := by decide +kernel
theorem d_Md_finds_28 : decode prog_14_method_61_code 28 = .ok (.getfield 52, 3) := by decide +kernel
theorem d_Md_finds_31 : decode prog_14_method_61_code 31 = .ok (.iload_n 1, 1) := by decide +kernel
theorem d_Md_finds_32 : decode prog_14_method_61_code 32 = .ok (.iload_n 3, 1) := by decide +kernel
theorem d_Md_finds_33 : decode prog_14_method_61_code 33 = .ok (.iadd, 1) := by decide +kernel
theorem d_Md_finds_34 : decode prog_14_method_61_code 34 = .ok (.iconst 1, 1) := by decide +kernel
theorem d_Md_finds_35 : decode prog_14_method_61_code 35 = .ok (.isub, 1) := by decide +kernel
theorem d_Md_finds_36 : decode prog_14_method_61_code 36 = .ok (.iload 4, 2) := by decide +kernel
theorem d_Md_finds_38 : decode prog_14_method_61_code 38 = .ok (.isub, 1) := by decide +kernel
theorem d_Md_finds_39 : decode prog_14_method_61_code 39 = .ok (.iaload, 1) := by decide +kernel
theorem d_Md_finds_40 : decode prog_14_method_61_code 40 = .ok (.iastore, 1) := by decide +kernel
theorem d_Md_finds_41 : decode prog_14_method_61_code 41 = .ok (.iinc 4 1, 3) := by decide +kernel
theorem d_Md_finds_44 : decode prog_14_method_61_code 44 = .ok (.goto (-34), 3) := by decide +kernel
theorem d_Md_finds_47 : decode prog_14_method_61_code 47 = .ok (.aload_n 0, 1) := by decide +kernel
theorem d_Md_finds_48 : decode prog_14_method_61_code 48 = .ok (.getfield 55, 3) := by decide +kernel
theorem d_Md_finds_51 : decode prog_14_method_61_code 51 = .ok (.bipush 17, 2) := by decide +kernel
theorem d_Md_finds_53 : decode prog_14_method_61_code 53 = .ok (.iload_n 3, 1) := by decide +kernel
theorem d_Md_finds_54 : decode prog_14_method_61_code 54 = .ok (.imul, 1) := by decide +kernel
theorem d_Md_finds_55 : decode prog_14_method_61_code 55 = .ok (.iload_n 1, 1) := by decide +kernel
theorem d_Md_finds_56 : decode prog_14_method_61_code 56 = .ok (.iadd, 1) := by decide +kernel
theorem d_Md_finds_57 : decode prog_14_method_61_code 57 = .ok (.aload_n 0, 1) := by decide +kernel
theorem d_Md_finds_58 : decode prog_14_method_61_code 58 = .ok (.getfield 52, 3) := by decide +kernel
theorem d_Md_finds_61 : decode prog_14_method_61_code 61 = .ok (.iload_n 1, 1) := by decide +kernel
theorem d_Md_finds_62 : decode prog_14_method_61_code 62 = .ok (.iload_n 3, 1) := by decide +kernel
theorem d_Md_finds_63 : decode prog_14_method_61_code 63 = .ok (.iadd, 1) := by decide +kernel
theorem d_Md_finds_64 : decode prog_14_method_61_code 64 = .ok (.iaload, 1) := by decide +kernel
theorem d_Md_finds_65 : decode prog_14_method_61_code 65 = .ok (.iastore, 1) := by decide +kernel
theorem d_Md_finds_66 : decode prog_14_method_61_code 66 = .ok (.iinc 3 1, 3) := by decide +kernel
theorem d_Md_finds_69 : decode prog_14_method_61_code 69 = .ok (.goto (-67), 3) := by decide +kernel
theorem d_Md_finds_72 : decode prog_14_method_61_code 72 = .ok (.aload_n 0, 1) := by decide +kernel
theorem d_Md_finds_73 : decode prog_14_method_61_code 73 = .ok (.iload_n 1, 1) := by decide +kernel
theorem d_Md_finds_74 : decode prog_14_method_61_code 74 = .ok (.invokevirtual 253, 3) := by decide +kernel
theorem d_Md_finds_77 : decode prog_14_method_61_code 77 = .ok (.ifCond .ne 5, 3) := by decide +kernel
theorem d_Md_finds_80 : decode prog_14_method_61_code 80 = .ok (.iconst 0, 1) := by decide +kernel
theorem d_Md_finds_81 : decode prog_14_method_61_code 81 = .ok (.ireturn, 1) := by decide +kernel
theorem d_Md_finds_82 : decode prog_14_method_61_code 82 = .ok (.iconst 0, 1) := by decide +kernel
theorem d_Md_finds_83 : decode prog_14_method_61_code 83 = .ok (.istore_n 3, 1) := by decide +kernel
theorem d_Md_finds_84 : decode prog_14_method_61_code 84 = .ok (.iconst 0, 1) := by decide +kernel
theorem d_Md_finds_85 : decode prog_14_method_61_code 85 = .ok (.istore 4, 2) := by decide +kernel
theorem d_Md_finds_87 : decode prog_14_method_61_code 87 = .ok (.iload 4, 2) := by decide +kernel
theorem d_Md_finds_89 : decode prog_14_method_61_code 89 = .ok (.iload_n 2, 1) := by decide +kernel
theorem d_Md_finds_90 : decode prog_14_method_61_code 90 = .ok (.if_icmp .ge 80, 3) := by decide +kernel
theorem d_Md_finds_93 : decode prog_14_method_61_code 93 = .ok (.iload 4, 2) := by decide +kernel
theorem d_Md_finds_95 : decode prog_14_method_61_code 95 = .ok (.iconst 1, 1) := by decide +kernel
theorem d_Md_finds_96 : decode prog_14_method_61_code 96 = .ok (.iadd, 1) := by decide +kernel
theorem d_Md_finds_97 : decode prog_14_method_61_code 97 = .ok (.iload_n 2, 1) := by decide +kernel
theorem d_Md_finds_98 : decode prog_14_method_61_code 98 = .ok (.isub, 1) := by decide +kernel
theorem d_Md_finds_99 : decode prog_14_method_61_code 99 = .ok (.invokestatic 144, 3) := by decide +kernel
theorem d_Md_finds_102 : decode prog_14_method_61_code 102 = .ok (.istore 5, 2) := by decide +kernel
theorem d_Md_finds_104 : decode prog_14_method_61_code 104 = .ok (.iconst 0, 1) := by decide +kernel
theorem d_Md_finds_105 : decode prog_14_method_61_code 105 = .ok (.istore 6, 2) := by decide +kernel
theorem d_Md_finds_107 : decode prog_14_method_61_code 107 = .ok (.iload_n 1, 1) := by decide +kernel
theorem d_Md_finds_108 : decode prog_14_method_61_code 108 = .ok (.iconst 1, 1) := by decide +kernel
theorem d_Md_finds_109 : decode prog_14_method_61_code 109 = .ok (.isub, 1) := by decide +kernel
theorem d_Md_finds_110 : decode prog_14_method_61_code 110 = .ok (.istore 7, 2) := by decide +kernel
theorem d_Md_finds_112 : decode prog_14_method_61_code 112 = .ok (.iload 7, 2) := by decide +kernel
theorem d_Md_finds_114 : decode prog_14_method_61_code 114 = .ok (.ifCond .lt 26, 3) := by decide +kernel
theorem d_Md_finds_117 : decode prog_14_method_61_code 117 = .ok (.iload 6, 2) := by decide +kernel
theorem d_Md_finds_119 : decode prog_14_method_61_code 119 = .ok (.aload_n 0, 1) := by decide +kernel
theorem d_Md_finds_120 : decode prog_14_method_61_code 120 = .ok (.getfield 58, 3) := by decide +kernel
theorem d_Md_finds_123 : decode prog_14_method_61_code 123 = .ok (.iload 7, 2) := by decide +kernel
theorem d_Md_finds_125 : decode prog_14_method_61_code 125 = .ok (.iaload, 1) := by decide +kernel
theorem d_Md_finds_126 : decode prog_14_method_61_code 126 = .ok (.ixor, 1) := by decide +kernel
theorem d_Md_finds_127 : decode prog_14_method_61_code 127 = .ok (.iload 5, 2) := by decide +kernel
theorem d_Md_finds_129 : decode prog_14_method_61_code 129 = .ok (.invokestatic 147, 3) := by decide +kernel
theorem d_Md_finds_132 : decode prog_14_method_61_code 132 = .ok (.istore 6, 2) := by decide +kernel
theorem d_Md_finds_134 : decode prog_14_method_61_code 134 = .ok (.iinc 7 (-1), 3) := by decide +kernel
theorem d_Md_finds_137 : decode prog_14_method_61_code 137 = .ok (.goto (-25), 3) := by decide +kernel
theorem d_Md_finds_140 : decode prog_14_method_61_code 140 = .ok (.iload 6, 2) := by decide +kernel
theorem d_Md_finds_142 : decode prog_14_method_61_code 142 = .ok (.iconst 1, 1) := by decide +kernel
theorem d_Md_finds_143 : decode prog_14_method_61_code 143 = .ok (.if_icmp .ne 21, 3) := by decide +kernel
theorem d_Md_finds_146 : decode prog_14_method_61_code 146 = .ok (.iload_n 3, 1) := by decide +kernel
theorem d_Md_finds_147 : decode prog_14_method_61_code 147 = .ok (.iload_n 1, 1) := by decide +kernel
theorem d_Md_finds_148 : decode prog_14_method_61_code 148 = .ok (.if_icmp .ne 5, 3) := by decide +kernel
theorem d_Md_finds_151 : decode prog_14_method_61_code 151 = .ok (.iconst 0, 1) := by decide +kernel
theorem d_Md_finds_152 : decode prog_14_method_61_code 152 = .ok (.ireturn, 1) := by decide +kernel
theorem d_Md_finds_153 : decode prog_14_method_61_code 153 = .ok (.aload_n 0, 1) := by decide +kernel
theorem d_Md_finds_154 : decode prog_14_method_61_code 154 = .ok (.getfield 61, 3) := by decide +kernel
theorem d_Md_finds_157 : decode prog_14_method_61_code 157 = .ok (.iload_n 3, 1) := by decide +kernel
theorem d_Md_finds_158 : decode prog_14_method_61_code 158 = .ok (.iload 4, 2) := by decide +kernel
theorem d_Md_finds_160 : decode prog_14_method_61_code 160 = .ok (.iastore, 1) := by decide +kernel
theorem d_Md_finds_161 : decode prog_14_method_61_code 161 = .ok (.iinc 3 1, 3) := by decide +kernel
theorem d_Md_finds_164 : decode prog_14_method_61_code 164 = .ok (.iinc 4 1, 3) := by decide +kernel
theorem d_Md_finds_167 : decode prog_14_method_61_code 167 = .ok (.goto (-80), 3) := by decide +kernel
theorem d_Md_finds_170 : decode prog_14_method_61_code 170 = .ok (.iload_n 3, 1) := by decide +kernel
theorem d_Md_finds_171 : decode prog_14_method_61_code 171 = .ok (.iload_n 1, 1) := by decide +kernel
theorem d_Md_finds_172 : decode prog_14_method_61_code 172 = .ok (.if_icmp .ne 7, 3) := by decide +kernel
theorem d_Md_finds_175 : decode prog_14_method_61_code 175 = .ok (.iconst 1, 1) := by decide +kernel
theorem d_Md_finds_176 : decode prog_14_method_61_code 176 = .ok (.goto 4, 3) := by decide +kernel
theorem d_Md_finds_179 : decode prog_14_method_61_code 179 = .ok (.iconst 0, 1) := by decide +kernel
theorem d_Md_finds_180 : decode prog_14_method_61_code 180 = .ok (.ireturn, 1) := by decide +kernel
theorem d_Md_solves_0 : decode prog_14_method_60_code 0 = .ok (.iconst 0, 1) := by decide +kernel
theorem d_Md_solves_1 : decode prog_14_method_60_code 1 = .ok (.istore_n 2, 1) := by decide +kernel
theorem d_Md_solves_2 : decode prog_14_method_60_code 2 = .ok (.iload_n 2, 1) := by decide +kernel
theorem d_Md_solves_3 : decode prog_14_method_60_code 3 = .ok (.iload_n 1, 1) := by decide +kernel
theorem d_Md_solves_4 : decode prog_14_method_60_code 4 = .ok (.if_icmp .ge 264, 3) := by decide +kernel
theorem d_Md_solves_7 : decode prog_14_method_60_code 7 = .ok (.iload_n 2, 1) := by decide +kernel
theorem d_Md_solves_8 : decode prog_14_method_60_code 8 = .ok (.istore_n 3, 1) := by decide +kernel
theorem d_Md_solves_9 : decode prog_14_method_60_code 9 = .ok (.iload_n 3, 1) := by decide +kernel
theorem d_Md_solves_10 : decode prog_14_method_60_code 10 = .ok (.iload_n 1, 1) := by decide +kernel
theorem d_Md_solves_11 : decode prog_14_method_60_code 11 = .ok (.if_icmp .ge 23, 3) := by decide +kernel
theorem d_Md_solves_14 : decode prog_14_method_60_code 14 = .ok (.aload_n 0, 1) := by decide +kernel
theorem d_Md_solves_15 : decode prog_14_method_60_code 15 = .ok (.getfield 55, 3) := by decide +kernel
theorem d_Md_solves_18 : decode prog_14_method_60_code 18 = .ok (.bipush 17, 2) := by decide +kernel
theorem d_Md_solves_20 : decode prog_14_method_60_code 20 = .ok (.iload_n 3, 1) := by decide +kernel
theorem d_Md_solves_21 : decode prog_14_method_60_code 21 = .ok (.imul, 1) := by decide +kernel
theorem d_Md_solves_22 : decode prog_14_method_60_code 22 = .ok (.iload_n 2, 1) := by decide +kernel
theorem d_Md_solves_23 : decode prog_14_method_60_code 23 = .ok (.iadd, 1) := by decide +kernel
theorem d_Md_solves_24 : decode prog_14_method_60_code 24 = .ok (.iaload, 1) := by decide +kernel
theorem d_Md_solves_25 : decode prog_14_method_60_code 25 = .ok (.ifCond .ne 9, 3) := by decide +kernel
theorem d_Md_solves_28 : decode prog_14_method_60_code 28 = .ok (.iinc 3 1, 3) := by decide +kernel
theorem d_Md_solves_31 : decode prog_14_method_60_code 31 = .ok (.goto (-22), 3) := by decide +kernel
theorem d_Md_solves_34 : decode prog_14_method_60_code 34 = .ok (.iload_n 3, 1) := by decide +kernel
theorem d_Md_solves_35 : decode prog_14_method_60_code 35 = .ok (.iload_n 1, 1) := by decide +kernel
theorem d_Md_solves_36 : decode prog_14_method_60_code 36 = .ok (.if_icmp .ne 5, 3) := by decide +kernel
theorem d_Md_solves_39 : decode prog_14_method_60_code 39 = .ok (.iconst 0, 1) := by decide +kernel
theorem d_Md_solves_40 : decode prog_14_method_60_code 40 = .ok (.ireturn, 1) := by decide +kernel
theorem d_Md_solves_41 : decode prog_14_method_60_code 41 = .ok (.iconst 0, 1) := by decide +kernel
theorem d_Md_solves_42 : decode prog_14_method_60_code 42 = .ok (.istore 4, 2) := by decide +kernel
theorem d_Md_solves_44 : decode prog_14_method_60_code 44 = .ok (.iload 4, 2) := by decide +kernel
theorem d_Md_solves_46 : decode prog_14_method_60_code 46 = .ok (.iload_n 1, 1) := by decide +kernel
theorem d_Md_solves_47 : decode prog_14_method_60_code 47 = .ok (.if_icmp .gt 61, 3) := by decide +kernel
theorem d_Md_solves_50 : decode prog_14_method_60_code 50 = .ok (.aload_n 0, 1) := by decide +kernel
theorem d_Md_solves_51 : decode prog_14_method_60_code 51 = .ok (.getfield 55, 3) := by decide +kernel
theorem d_Md_solves_54 : decode prog_14_method_60_code 54 = .ok (.bipush 17, 2) := by decide +kernel
theorem d_Md_solves_56 : decode prog_14_method_60_code 56 = .ok (.iload_n 3, 1) := by decide +kernel
theorem d_Md_solves_57 : decode prog_14_method_60_code 57 = .ok (.imul, 1) := by decide +kernel
theorem d_Md_solves_58 : decode prog_14_method_60_code 58 = .ok (.iload 4, 2) := by decide +kernel
theorem d_Md_solves_60 : decode prog_14_method_60_code 60 = .ok (.iadd, 1) := by decide +kernel
theorem d_Md_solves_61 : decode prog_14_method_60_code 61 = .ok (.iaload, 1) := by decide +kernel
theorem d_Md_solves_62 : decode prog_14_method_60_code 62 = .ok (.istore 5, 2) := by decide +kernel
theorem d_Md_solves_64 : decode prog_14_method_60_code 64 = .ok (.aload_n 0, 1) := by decide +kernel
theorem d_Md_solves_65 : decode prog_14_method_60_code 65 = .ok (.getfield 55, 3) := by decide +kernel
theorem d_Md_solves_68 : decode prog_14_method_60_code 68 = .ok (.bipush 17, 2) := by decide +kernel
theorem d_Md_solves_70 : decode prog_14_method_60_code 70 = .ok (.iload_n 3, 1) := by decide +kernel
theorem d_Md_solves_71 : decode prog_14_method_60_code 71 = .ok (.imul, 1) := by decide +kernel
theorem d_Md_solves_72 : decode prog_14_method_60_code 72 = .ok (.iload 4, 2) := by decide +kernel
theorem d_Md_solves_74 : decode prog_14_method_60_code 74 = .ok (.iadd, 1) := by decide +kernel
theorem d_Md_solves_75 : decode prog_14_method_60_code 75 = .ok (.aload_n 0, 1) := by decide +kernel
theorem d_Md_solves_76 : decode prog_14_method_60_code 76 = .ok (.getfield 55, 3) := by decide +kernel
theorem d_Md_solves_79 : decode prog_14_method_60_code 79 = .ok (.bipush 17, 2) := by decide +kernel
theorem d_Md_solves_81 : decode prog_14_method_60_code 81 = .ok (.iload_n 2, 1) := by decide +kernel
theorem d_Md_solves_82 : decode prog_14_method_60_code 82 = .ok (.imul, 1) := by decide +kernel
theorem d_Md_solves_83 : decode prog_14_method_60_code 83 = .ok (.iload 4, 2) := by decide +kernel
theorem d_Md_solves_85 : decode prog_14_method_60_code 85 = .ok (.iadd, 1) := by decide +kernel
theorem d_Md_solves_86 : decode prog_14_method_60_code 86 = .ok (.iaload, 1) := by decide +kernel
theorem d_Md_solves_87 : decode prog_14_method_60_code 87 = .ok (.iastore, 1) := by decide +kernel
theorem d_Md_solves_88 : decode prog_14_method_60_code 88 = .ok (.aload_n 0, 1) := by decide +kernel
theorem d_Md_solves_89 : decode prog_14_method_60_code 89 = .ok (.getfield 55, 3) := by decide +kernel
theorem d_Md_solves_92 : decode prog_14_method_60_code 92 = .ok (.bipush 17, 2) := by decide +kernel
theorem d_Md_solves_94 : decode prog_14_method_60_code 94 = .ok (.iload_n 2, 1) := by decide +kernel
theorem d_Md_solves_95 : decode prog_14_method_60_code 95 = .ok (.imul, 1) := by decide +kernel
theorem d_Md_solves_96 : decode prog_14_method_60_code 96 = .ok (.iload 4, 2) := by decide +kernel
theorem d_Md_solves_98 : decode prog_14_method_60_code 98 = .ok (.iadd, 1) := by decide +kernel
theorem d_Md_solves_99 : decode prog_14_method_60_code 99 = .ok (.iload 5, 2) := by decide +kernel
theorem d_Md_solves_101 : decode prog_14_method_60_code 101 = .ok (.iastore, 1) := by decide +kernel
theorem d_Md_solves_102 : decode prog_14_method_60_code 102 = .ok (.iinc 4 1, 3) := by decide +kernel
theorem d_Md_solves_105 : decode prog_14_method_60_code 105 = .ok (.goto (-61), 3) := by decide +kernel
theorem d_Md_solves_108 : decode prog_14_method_60_code 108 = .ok (.aload_n 0, 1) := by decide +kernel
theorem d_Md_solves_109 : decode prog_14_method_60_code 109 = .ok (.getfield 55, 3) := by decide +kernel
theorem d_Md_solves_112 : decode prog_14_method_60_code 112 = .ok (.bipush 17, 2) := by decide +kernel
theorem d_Md_solves_114 : decode prog_14_method_60_code 114 = .ok (.iload_n 2, 1) := by decide +kernel
theorem d_Md_solves_115 : decode prog_14_method_60_code 115 = .ok (.imul, 1) := by decide +kernel
theorem d_Md_solves_116 : decode prog_14_method_60_code 116 = .ok (.iload_n 2, 1) := by decide +kernel
theorem d_Md_solves_117 : decode prog_14_method_60_code 117 = .ok (.iadd, 1) := by decide +kernel
theorem d_Md_solves_118 : decode prog_14_method_60_code 118 = .ok (.iaload, 1) := by decide +kernel
theorem d_Md_solves_119 : decode prog_14_method_60_code 119 = .ok (.invokestatic 250, 3) := by decide +kernel
theorem d_Md_solves_122 : decode prog_14_method_60_code 122 = .ok (.istore 4, 2) := by decide +kernel
theorem d_Md_solves_124 : decode prog_14_method_60_code 124 = .ok (.iconst 0, 1) := by decide +kernel
theorem d_Md_solves_125 : decode prog_14_method_60_code 125 = .ok (.istore 5, 2) := by decide +kernel
theorem d_Md_solves_127 : decode prog_14_method_60_code 127 = .ok (.iload 5, 2) := by decide +kernel
theorem d_Md_solves_129 : decode prog_14_method_60_code 129 = .ok (.iload_n 1, 1) := by decide +kernel
theorem d_Md_solves_130 : decode prog_14_method_60_code 130 = .ok (.if_icmp .gt 38, 3) := by decide +kernel
theorem d_Md_solves_133 : decode prog_14_method_60_code 133 = .ok (.aload_n 0, 1) := by decide +kernel
theorem d_Md_solves_134 : decode prog_14_method_60_code 134 = .ok (.getfield 55, 3) := by decide +kernel
theorem d_Md_solves_137 : decode prog_14_method_60_code 137 = .ok (.bipush 17, 2) := by decide +kernel
theorem d_Md_solves_139 : decode prog_14_method_60_code 139 = .ok (.iload_n 2, 1) := by decide +kernel
theorem d_Md_solves_140 : decode prog_14_method_60_code 140 = .ok (.imul, 1) := by decide +kernel
theorem d_Md_solves_141 : decode prog_14_method_60_code 141 = .ok (.iload 5, 2) := by decide +kernel
theorem d_Md_solves_143 : decode prog_14_method_60_code 143 = .ok (.iadd, 1) := by decide +kernel
theorem d_Md_solves_144 : decode prog_14_method_60_code 144 = .ok (.aload_n 0, 1) := by decide +kernel
theorem d_Md_solves_145 : decode prog_14_method_60_code 145 = .ok (.getfield 55, 3) := by decide +kernel
theorem d_Md_solves_148 : decode prog_14_method_60_code 148 = .ok (.bipush 17, 2) := by decide +kernel
theorem d_Md_solves_150 : decode prog_14_method_60_code 150 = .ok (.iload_n 2, 1) := by decide +kernel
theorem d_Md_solves_151 : decode prog_14_method_60_code 151 = .ok (.imul, 1) := by decide +kernel
theorem d_Md_solves_152 : decode prog_14_method_60_code 152 = .ok (.iload 5, 2) := by decide +kernel
theorem d_Md_solves_154 : decode prog_14_method_60_code 154 = .ok (.iadd, 1) := by decide +kernel
theorem d_Md_solves_155 : decode prog_14_method_60_code 155 = .ok (.iaload, 1) := by decide +kernel
theorem d_Md_solves_156 : decode prog_14_method_60_code 156 = .ok (.iload 4, 2) := by decide +kernel
theorem d_Md_solves_158 : decode prog_14_method_60_code 158 = .ok (.invokestatic 147, 3) := by decide +kernel
theorem d_Md_solves_161 : decode prog_14_method_60_code 161 = .ok (.iastore, 1) := by decide +kernel
theorem d_Md_solves_162 : decode prog_14_method_60_code 162 = .ok (.iinc 5 1, 3) := by decide +kernel
theorem d_Md_solves_165 : decode prog_14_method_60_code 165 = .ok (.goto (-38), 3) := by decide +kernel
theorem d_Md_solves_168 : decode prog_14_method_60_code 168 = .ok (.iconst 0, 1) := by decide +kernel
theorem d_Md_solves_169 : decode prog_14_method_60_code 169 = .ok (.istore 5, 2) := by decide +kernel
theorem d_Md_solves_171 : decode prog_14_method_60_code 171 = .ok (.iload 5, 2) := by decide +kernel
theorem d_Md_solves_173 : decode prog_14_method_60_code 173 = .ok (.iload_n 1, 1) := by decide +kernel
theorem d_Md_solves_174 : decode prog_14_method_60_code 174 = .ok (.if_icmp .ge 88, 3) := by decide +kernel
theorem d_Md_solves_177 : decode prog_14_method_60_code 177 = .ok (.aload_n 0, 1) := by decide +kernel
theorem d_Md_solves_178 : decode prog_14_method_60_code 178 = .ok (.getfield 55, 3) := by decide +kernel
theorem d_Md_solves_181 : decode prog_14_method_60_code 181 = .ok (.bipush 17, 2) := by decide +kernel
theorem d_Md_solves_183 : decode prog_14_method_60_code 183 = .ok (.iload 5, 2) := by decide +kernel
theorem d_Md_solves_185 : decode prog_14_method_60_code 185 = .ok (.imul, 1) := by decide +kernel
theorem d_Md_solves_186 : decode prog_14_method_60_code 186 = .ok (.iload_n 2, 1) := by decide +kernel
theorem d_Md_solves_187 : decode prog_14_method_60_code 187 = .ok (.iadd, 1) := by decide +kernel
theorem d_Md_solves_188 : decode prog_14_method_60_code 188 = .ok (.iaload, 1) := by decide +kernel
theorem d_Md_solves_189 : decode prog_14_method_60_code 189 = .ok (.istore 6, 2) := by decide +kernel
theorem d_Md_solves_191 : decode prog_14_method_60_code 191 = .ok (.iconst 0, 1) := by decide +kernel
theorem d_Md_solves_192 : decode prog_14_method_60_code 192 = .ok (.istore 7, 2) := by decide +kernel
theorem d_Md_solves_194 : decode prog_14_method_60_code 194 = .ok (.iload 7, 2) := by decide +kernel
theorem d_Md_solves_196 : decode prog_14_method_60_code 196 = .ok (.iload_n 1, 1) := by decide +kernel
theorem d_Md_solves_197 : decode prog_14_method_60_code 197 = .ok (.if_icmp .gt 59, 3) := by decide +kernel
theorem d_Md_solves_200 : decode prog_14_method_60_code 200 = .ok (.iload 5, 2) := by decide +kernel
theorem d_Md_solves_202 : decode prog_14_method_60_code 202 = .ok (.iload_n 2, 1) := by decide +kernel
theorem d_Md_solves_203 : decode prog_14_method_60_code 203 = .ok (.if_icmp .eq 53, 3) := by decide +kernel
theorem d_Md_solves_206 : decode prog_14_method_60_code 206 = .ok (.aload_n 0, 1) := by decide +kernel
theorem d_Md_solves_207 : decode prog_14_method_60_code 207 = .ok (.getfield 55, 3) := by decide +kernel
theorem d_Md_solves_210 : decode prog_14_method_60_code 210 = .ok (.bipush 17, 2) := by decide +kernel
theorem d_Md_solves_212 : decode prog_14_method_60_code 212 = .ok (.iload 5, 2) := by decide +kernel
theorem d_Md_solves_214 : decode prog_14_method_60_code 214 = .ok (.imul, 1) := by decide +kernel
theorem d_Md_solves_215 : decode prog_14_method_60_code 215 = .ok (.iload 7, 2) := by decide +kernel
theorem d_Md_solves_217 : decode prog_14_method_60_code 217 = .ok (.iadd, 1) := by decide +kernel
theorem d_Md_solves_218 : decode prog_14_method_60_code 218 = .ok (.aload_n 0, 1) := by decide +kernel
theorem d_Md_solves_219 : decode prog_14_method_60_code 219 = .ok (.getfield 55, 3) := by decide +kernel
theorem d_Md_solves_222 : decode prog_14_method_60_code 222 = .ok (.bipush 17, 2) := by decide +kernel
theorem d_Md_solves_224 : decode prog_14_method_60_code 224 = .ok (.iload 5, 2) := by decide +kernel
theorem d_Md_solves_226 : decode prog_14_method_60_code 226 = .ok (.imul, 1) := by decide +kernel
theorem d_Md_solves_227 : decode prog_14_method_60_code 227 = .ok (.iload 7, 2) := by decide +kernel
theorem d_Md_solves_229 : decode prog_14_method_60_code 229 = .ok (.iadd, 1) := by decide +kernel
theorem d_Md_solves_230 : decode prog_14_method_60_code 230 = .ok (.iaload, 1) := by decide +kernel
theorem d_Md_solves_231 : decode prog_14_method_60_code 231 = .ok (.iload 6, 2) := by decide +kernel
theorem d_Md_solves_233 : decode prog_14_method_60_code 233 = .ok (.aload_n 0, 1) := by decide +kernel
theorem d_Md_solves_234 : decode prog_14_method_60_code 234 = .ok (.getfield 55, 3) := by decide +kernel
theorem d_Md_solves_237 : decode prog_14_method_60_code 237 = .ok (.bipush 17, 2) := by decide +kernel
theorem d_Md_solves_239 : decode prog_14_method_60_code 239 = .ok (.iload_n 2, 1) := by decide +kernel
theorem d_Md_solves_240 : decode prog_14_method_60_code 240 = .ok (.imul, 1) := by decide +kernel
theorem d_Md_solves_241 : decode prog_14_method_60_code 241 = .ok (.iload 7, 2) := by decide +kernel
theorem d_Md_solves_243 : decode prog_14_method_60_code 243 = .ok (.iadd, 1) := by decide +kernel
theorem d_Md_solves_244 : decode prog_14_method_60_code 244 = .ok (.iaload, 1) := by decide +kernel
theorem d_Md_solves_245 : decode prog_14_method_60_code 245 = .ok (.invokestatic 147, 3) := by decide +kernel
theorem d_Md_solves_248 : decode prog_14_method_60_code 248 = .ok (.ixor, 1) := by decide +kernel
theorem d_Md_solves_249 : decode prog_14_method_60_code 249 = .ok (.iastore, 1) := by decide +kernel
theorem d_Md_solves_250 : decode prog_14_method_60_code 250 = .ok (.iinc 7 1, 3) := by decide +kernel
theorem d_Md_solves_253 : decode prog_14_method_60_code 253 = .ok (.goto (-59), 3) := by decide +kernel
theorem d_Md_solves_256 : decode prog_14_method_60_code 256 = .ok (.iinc 5 1, 3) := by decide +kernel
theorem d_Md_solves_259 : decode prog_14_method_60_code 259 = .ok (.goto (-88), 3) := by decide +kernel
theorem d_Md_solves_262 : decode prog_14_method_60_code 262 = .ok (.iinc 2 1, 3) := by decide +kernel
theorem d_Md_solves_265 : decode prog_14_method_60_code 265 = .ok (.goto (-263), 3) := by decide +kernel
theorem d_Md_solves_268 : decode prog_14_method_60_code 268 = .ok (.iconst 0, 1) := by decide +kernel
theorem d_Md_solves_269 : decode prog_14_method_60_code 269 = .ok (.istore_n 2, 1) := by decide +kernel
theorem d_Md_solves_270 : decode prog_14_method_60_code 270 = .ok (.iload_n 2, 1) := by decide +kernel
theorem d_Md_solves_271 : decode prog_14_method_60_code 271 = .ok (.iload_n 1, 1) := by decide +kernel
theorem d_Md_solves_272 : decode prog_14_method_60_code 272 = .ok (.if_icmp .ge 26, 3) := by decide +kernel
theorem d_Md_solves_275 : decode prog_14_method_60_code 275 = .ok (.aload_n 0, 1) := by decide +kernel
theorem d_Md_solves_276 : decode prog_14_method_60_code 276 = .ok (.getfield 58, 3) := by decide +kernel
theorem d_Md_solves_279 : decode prog_14_method_60_code 279 = .ok (.iload_n 2, 1) := by decide +kernel
theorem d_Md_solves_280 : decode prog_14_method_60_code 280 = .ok (.aload_n 0, 1) := by decide +kernel
theorem d_Md_solves_281 : decode prog_14_method_60_code 281 = .ok (.getfield 55, 3) := by decide +kernel
theorem d_Md_solves_284 : decode prog_14_method_60_code 284 = .ok (.bipush 17, 2) := by decide +kernel
theorem d_Md_solves_286 : decode prog_14_method_60_code 286 = .ok (.iload_n 2, 1) := by decide +kernel
theorem d_Md_solves_287 : decode prog_14_method_60_code 287 = .ok (.imul, 1) := by decide +kernel
theorem d_Md_solves_288 : decode prog_14_method_60_code 288 = .ok (.iload_n 1, 1) := by decide +kernel
theorem d_Md_solves_289 : decode prog_14_method_60_code 289 = .ok (.iadd, 1) := by decide +kernel
theorem d_Md_solves_290 : decode prog_14_method_60_code 290 = .ok (.iaload, 1) := by decide +kernel
theorem d_Md_solves_291 : decode prog_14_method_60_code 291 = .ok (.iastore, 1) := by decide +kernel
theorem d_Md_solves_292 : decode prog_14_method_60_code 292 = .ok (.iinc 2 1, 3) := by decide +kernel
theorem d_Md_solves_295 : decode prog_14_method_60_code 295 = .ok (.goto (-25), 3) := by decide +kernel
theorem d_Md_solves_298 : decode prog_14_method_60_code 298 = .ok (.iconst 1, 1) := by decide +kernel
theorem d_Md_solves_299 : decode prog_14_method_60_code 299 = .ok (.ireturn, 1) := by decide +kernel
theorem d_Md_inverse_0 : decode prog_14_method_59_code 0 = .ok (.iconst 1, 1) := by decide +kernel
theorem d_Md_inverse_1 : decode prog_14_method_59_code 1 = .ok (.istore_n 1, 1) := by decide +kernel
theorem d_Md_inverse_2 : decode prog_14_method_59_code 2 = .ok (.iload_n 1, 1) := by decide +kernel
theorem d_Md_inverse_3 : decode prog_14_method_59_code 3 = .ok (.iload_n 0, 1) := by decide +kernel
theorem d_Md_inverse_4 : decode prog_14_method_59_code 4 = .ok (.invokestatic 147, 3) := by decide +kernel
theorem d_Md_inverse_7 : decode prog_14_method_59_code 7 = .ok (.iconst 1, 1) := by decide +kernel
theorem d_Md_inverse_8 : decode prog_14_method_59_code 8 = .ok (.if_icmp .eq 9, 3) := by decide +kernel
theorem d_Md_inverse_11 : decode prog_14_method_59_code 11 = .ok (.iinc 1 1, 3) := by decide +kernel
theorem d_Md_inverse_14 : decode prog_14_method_59_code 14 = .ok (.goto (-12), 3) := by decide +kernel
theorem d_Md_inverse_17 : decode prog_14_method_59_code 17 = .ok (.iload_n 1, 1) := by decide +kernel
theorem d_Md_inverse_18 : decode prog_14_method_59_code 18 = .ok (.ireturn, 1) := by decide +kernel
theorem d_Md_mends_0 : decode prog_14_method_62_code 0 = .ok (.iconst 0, 1) := by decide +kernel
theorem d_Md_mends_1 : decode prog_14_method_62_code 1 = .ok (.istore_n 3, 1) := by decide +kernel
theorem d_Md_mends_2 : decode prog_14_method_62_code 2 = .ok (.iload_n 3, 1) := by decide +kernel
theorem d_Md_mends_3 : decode prog_14_method_62_code 3 = .ok (.iload_n 1, 1) := by decide +kernel
theorem d_Md_mends_4 : decode prog_14_method_62_code 4 = .ok (.if_icmp .ge 69, 3) := by decide +kernel
theorem d_Md_mends_7 : decode prog_14_method_62_code 7 = .ok (.iconst 0, 1) := by decide +kernel
theorem d_Md_mends_8 : decode prog_14_method_62_code 8 = .ok (.istore 4, 2) := by decide +kernel
theorem d_Md_mends_10 : decode prog_14_method_62_code 10 = .ok (.iload 4, 2) := by decide +kernel
theorem d_Md_mends_12 : decode prog_14_method_62_code 12 = .ok (.iload_n 1, 1) := by decide +kernel
theorem d_Md_mends_13 : decode prog_14_method_62_code 13 = .ok (.if_icmp .ge 37, 3) := by decide +kernel
theorem d_Md_mends_16 : decode prog_14_method_62_code 16 = .ok (.aload_n 0, 1) := by decide +kernel
theorem d_Md_mends_17 : decode prog_14_method_62_code 17 = .ok (.getfield 55, 3) := by decide +kernel
theorem d_Md_mends_20 : decode prog_14_method_62_code 20 = .ok (.bipush 17, 2) := by decide +kernel
theorem d_Md_mends_22 : decode prog_14_method_62_code 22 = .ok (.iload_n 3, 1) := by decide +kernel
theorem d_Md_mends_23 : decode prog_14_method_62_code 23 = .ok (.imul, 1) := by decide +kernel
theorem d_Md_mends_24 : decode prog_14_method_62_code 24 = .ok (.iload 4, 2) := by decide +kernel
theorem d_Md_mends_26 : decode prog_14_method_62_code 26 = .ok (.iadd, 1) := by decide +kernel
theorem d_Md_mends_27 : decode prog_14_method_62_code 27 = .ok (.iload_n 2, 1) := by decide +kernel
theorem d_Md_mends_28 : decode prog_14_method_62_code 28 = .ok (.iconst 1, 1) := by decide +kernel
theorem d_Md_mends_29 : decode prog_14_method_62_code 29 = .ok (.isub, 1) := by decide +kernel
theorem d_Md_mends_30 : decode prog_14_method_62_code 30 = .ok (.aload_n 0, 1) := by decide +kernel
theorem d_Md_mends_31 : decode prog_14_method_62_code 31 = .ok (.getfield 61, 3) := by decide +kernel
theorem d_Md_mends_34 : decode prog_14_method_62_code 34 = .ok (.iload 4, 2) := by decide +kernel
theorem d_Md_mends_36 : decode prog_14_method_62_code 36 = .ok (.iaload, 1) := by decide +kernel
theorem d_Md_mends_37 : decode prog_14_method_62_code 37 = .ok (.isub, 1) := by decide +kernel
theorem d_Md_mends_38 : decode prog_14_method_62_code 38 = .ok (.iload_n 3, 1) := by decide +kernel
theorem d_Md_mends_39 : decode prog_14_method_62_code 39 = .ok (.imul, 1) := by decide +kernel
theorem d_Md_mends_40 : decode prog_14_method_62_code 40 = .ok (.invokestatic 144, 3) := by decide +kernel
theorem d_Md_mends_43 : decode prog_14_method_62_code 43 = .ok (.iastore, 1) := by decide +kernel
theorem d_Md_mends_44 : decode prog_14_method_62_code 44 = .ok (.iinc 4 1, 3) := by decide +kernel
theorem d_Md_mends_47 : decode prog_14_method_62_code 47 = .ok (.goto (-37), 3) := by decide +kernel
theorem d_Md_mends_50 : decode prog_14_method_62_code 50 = .ok (.aload_n 0, 1) := by decide +kernel
theorem d_Md_mends_51 : decode prog_14_method_62_code 51 = .ok (.getfield 55, 3) := by decide +kernel
theorem d_Md_mends_54 : decode prog_14_method_62_code 54 = .ok (.bipush 17, 2) := by decide +kernel
theorem d_Md_mends_56 : decode prog_14_method_62_code 56 = .ok (.iload_n 3, 1) := by decide +kernel
theorem d_Md_mends_57 : decode prog_14_method_62_code 57 = .ok (.imul, 1) := by decide +kernel
theorem d_Md_mends_58 : decode prog_14_method_62_code 58 = .ok (.iload_n 1, 1) := by decide +kernel
theorem d_Md_mends_59 : decode prog_14_method_62_code 59 = .ok (.iadd, 1) := by decide +kernel
theorem d_Md_mends_60 : decode prog_14_method_62_code 60 = .ok (.aload_n 0, 1) := by decide +kernel
theorem d_Md_mends_61 : decode prog_14_method_62_code 61 = .ok (.getfield 52, 3) := by decide +kernel
theorem d_Md_mends_64 : decode prog_14_method_62_code 64 = .ok (.iload_n 3, 1) := by decide +kernel
theorem d_Md_mends_65 : decode prog_14_method_62_code 65 = .ok (.iaload, 1) := by decide +kernel
theorem d_Md_mends_66 : decode prog_14_method_62_code 66 = .ok (.iastore, 1) := by decide +kernel
theorem d_Md_mends_67 : decode prog_14_method_62_code 67 = .ok (.iinc 3 1, 3) := by decide +kernel
theorem d_Md_mends_70 : decode prog_14_method_62_code 70 = .ok (.goto (-68), 3) := by decide +kernel
theorem d_Md_mends_73 : decode prog_14_method_62_code 73 = .ok (.aload_n 0, 1) := by decide +kernel
theorem d_Md_mends_74 : decode prog_14_method_62_code 74 = .ok (.iload_n 1, 1) := by decide +kernel
theorem d_Md_mends_75 : decode prog_14_method_62_code 75 = .ok (.invokevirtual 253, 3) := by decide +kernel
theorem d_Md_mends_78 : decode prog_14_method_62_code 78 = .ok (.ifCond .ne 5, 3) := by decide +kernel
theorem d_Md_mends_81 : decode prog_14_method_62_code 81 = .ok (.iconst 0, 1) := by decide +kernel
theorem d_Md_mends_82 : decode prog_14_method_62_code 82 = .ok (.ireturn, 1) := by decide +kernel
theorem d_Md_mends_83 : decode prog_14_method_62_code 83 = .ok (.iconst 0, 1) := by decide +kernel
theorem d_Md_mends_84 : decode prog_14_method_62_code 84 = .ok (.istore_n 3, 1) := by decide +kernel
theorem d_Md_mends_85 : decode prog_14_method_62_code 85 = .ok (.iload_n 3, 1) := by decide +kernel
theorem d_Md_mends_86 : decode prog_14_method_62_code 86 = .ok (.iload_n 2, 1) := by decide +kernel
theorem d_Md_mends_87 : decode prog_14_method_62_code 87 = .ok (.if_icmp .ge 21, 3) := by decide +kernel
theorem d_Md_mends_90 : decode prog_14_method_62_code 90 = .ok (.aload_n 0, 1) := by decide +kernel
theorem d_Md_mends_91 : decode prog_14_method_62_code 91 = .ok (.getfield 49, 3) := by decide +kernel
theorem d_Md_mends_94 : decode prog_14_method_62_code 94 = .ok (.iload_n 3, 1) := by decide +kernel
theorem d_Md_mends_95 : decode prog_14_method_62_code 95 = .ok (.aload_n 0, 1) := by decide +kernel
theorem d_Md_mends_96 : decode prog_14_method_62_code 96 = .ok (.getfield 46, 3) := by decide +kernel
theorem d_Md_mends_99 : decode prog_14_method_62_code 99 = .ok (.iload_n 3, 1) := by decide +kernel
theorem d_Md_mends_100 : decode prog_14_method_62_code 100 = .ok (.iaload, 1) := by decide +kernel
theorem d_Md_mends_101 : decode prog_14_method_62_code 101 = .ok (.iastore, 1) := by decide +kernel
theorem d_Md_mends_102 : decode prog_14_method_62_code 102 = .ok (.iinc 3 1, 3) := by decide +kernel
theorem d_Md_mends_105 : decode prog_14_method_62_code 105 = .ok (.goto (-20), 3) := by decide +kernel
theorem d_Md_mends_108 : decode prog_14_method_62_code 108 = .ok (.iconst 1, 1) := by decide +kernel
theorem d_Md_mends_109 : decode prog_14_method_62_code 109 = .ok (.istore_n 3, 1) := by decide +kernel
theorem d_Md_mends_110 : decode prog_14_method_62_code 110 = .ok (.iconst 0, 1) := by decide +kernel
theorem d_Md_mends_111 : decode prog_14_method_62_code 111 = .ok (.istore 4, 2) := by decide +kernel
theorem d_Md_mends_113 : decode prog_14_method_62_code 113 = .ok (.iload 4, 2) := by decide +kernel
theorem d_Md_mends_115 : decode prog_14_method_62_code 115 = .ok (.iload_n 1, 1) := by decide +kernel
theorem d_Md_mends_116 : decode prog_14_method_62_code 116 = .ok (.if_icmp .ge 61, 3) := by decide +kernel
theorem d_Md_mends_119 : decode prog_14_method_62_code 119 = .ok (.aload_n 0, 1) := by decide +kernel
theorem d_Md_mends_120 : decode prog_14_method_62_code 120 = .ok (.getfield 49, 3) := by decide +kernel
theorem d_Md_mends_123 : decode prog_14_method_62_code 123 = .ok (.aload_n 0, 1) := by decide +kernel
theorem d_Md_mends_124 : decode prog_14_method_62_code 124 = .ok (.getfield 61, 3) := by decide +kernel
theorem d_Md_mends_127 : decode prog_14_method_62_code 127 = .ok (.iload 4, 2) := by decide +kernel
theorem d_Md_mends_129 : decode prog_14_method_62_code 129 = .ok (.iaload, 1) := by decide +kernel
theorem d_Md_mends_130 : decode prog_14_method_62_code 130 = .ok (.aload_n 0, 1) := by decide +kernel
theorem d_Md_mends_131 : decode prog_14_method_62_code 131 = .ok (.getfield 49, 3) := by decide +kernel
theorem d_Md_mends_134 : decode prog_14_method_62_code 134 = .ok (.aload_n 0, 1) := by decide +kernel
theorem d_Md_mends_135 : decode prog_14_method_62_code 135 = .ok (.getfield 61, 3) := by decide +kernel
theorem d_Md_mends_138 : decode prog_14_method_62_code 138 = .ok (.iload 4, 2) := by decide +kernel
theorem d_Md_mends_140 : decode prog_14_method_62_code 140 = .ok (.iaload, 1) := by decide +kernel
theorem d_Md_mends_141 : decode prog_14_method_62_code 141 = .ok (.iaload, 1) := by decide +kernel
theorem d_Md_mends_142 : decode prog_14_method_62_code 142 = .ok (.aload_n 0, 1) := by decide +kernel
theorem d_Md_mends_143 : decode prog_14_method_62_code 143 = .ok (.getfield 58, 3) := by decide +kernel
theorem d_Md_mends_146 : decode prog_14_method_62_code 146 = .ok (.iload 4, 2) := by decide +kernel
theorem d_Md_mends_148 : decode prog_14_method_62_code 148 = .ok (.iaload, 1) := by decide +kernel
theorem d_Md_mends_149 : decode prog_14_method_62_code 149 = .ok (.ixor, 1) := by decide +kernel
theorem d_Md_mends_150 : decode prog_14_method_62_code 150 = .ok (.iastore, 1) := by decide +kernel
theorem d_Md_mends_151 : decode prog_14_method_62_code 151 = .ok (.iload_n 3, 1) := by decide +kernel
theorem d_Md_mends_152 : decode prog_14_method_62_code 152 = .ok (.ifCond .eq 17, 3) := by decide +kernel
theorem d_Md_mends_155 : decode prog_14_method_62_code 155 = .ok (.aload_n 0, 1) := by decide +kernel
theorem d_Md_mends_156 : decode prog_14_method_62_code 156 = .ok (.getfield 58, 3) := by decide +kernel
theorem d_Md_mends_159 : decode prog_14_method_62_code 159 = .ok (.iload 4, 2) := by decide +kernel
theorem d_Md_mends_161 : decode prog_14_method_62_code 161 = .ok (.iaload, 1) := by decide +kernel
theorem d_Md_mends_162 : decode prog_14_method_62_code 162 = .ok (.ifCond .eq 7, 3) := by decide +kernel
theorem d_Md_mends_165 : decode prog_14_method_62_code 165 = .ok (.iconst 1, 1) := by decide +kernel
theorem d_Md_mends_166 : decode prog_14_method_62_code 166 = .ok (.goto 4, 3) := by decide +kernel
theorem d_Md_mends_169 : decode prog_14_method_62_code 169 = .ok (.iconst 0, 1) := by decide +kernel
theorem d_Md_mends_170 : decode prog_14_method_62_code 170 = .ok (.istore_n 3, 1) := by decide +kernel
theorem d_Md_mends_171 : decode prog_14_method_62_code 171 = .ok (.iinc 4 1, 3) := by decide +kernel
theorem d_Md_mends_174 : decode prog_14_method_62_code 174 = .ok (.goto (-61), 3) := by decide +kernel
theorem d_Md_mends_177 : decode prog_14_method_62_code 177 = .ok (.iload_n 3, 1) := by decide +kernel
theorem d_Md_mends_178 : decode prog_14_method_62_code 178 = .ok (.ireturn, 1) := by decide +kernel
theorem d_Md_segments_0 : decode prog_14_method_72_code 0 = .ok (.iconst 0, 1) := by decide +kernel
theorem d_Md_segments_1 : decode prog_14_method_72_code 1 = .ok (.istore_n 2, 1) := by decide +kernel
theorem d_Md_segments_2 : decode prog_14_method_72_code 2 = .ok (.aload_n 0, 1) := by decide +kernel
theorem d_Md_segments_3 : decode prog_14_method_72_code 3 = .ok (.getfield 285, 3) := by decide +kernel
theorem d_Md_segments_6 : decode prog_14_method_72_code 6 = .ok (.ifCond .ne 181, 3) := by decide +kernel
theorem d_Md_segments_9 : decode prog_14_method_72_code 9 = .ok (.aload_n 0, 1) := by decide +kernel
theorem d_Md_segments_10 : decode prog_14_method_72_code 10 = .ok (.getfield 282, 3) := by decide +kernel
theorem d_Md_segments_13 : decode prog_14_method_72_code 13 = .ok (.aload_n 0, 1) := by decide +kernel
theorem d_Md_segments_14 : decode prog_14_method_72_code 14 = .ok (.getfield 279, 3) := by decide +kernel
theorem d_Md_segments_17 : decode prog_14_method_72_code 17 = .ok (.isub, 1) := by decide +kernel
theorem d_Md_segments_18 : decode prog_14_method_72_code 18 = .ok (.iconst 4, 1) := by decide +kernel
theorem d_Md_segments_19 : decode prog_14_method_72_code 19 = .ok (.if_icmp .lt 168, 3) := by decide +kernel
theorem d_Md_segments_22 : decode prog_14_method_72_code 22 = .ok (.aload_n 0, 1) := by decide +kernel
theorem d_Md_segments_23 : decode prog_14_method_72_code 23 = .ok (.iconst 4, 1) := by decide +kernel
theorem d_Md_segments_24 : decode prog_14_method_72_code 24 = .ok (.invokevirtual 291, 3) := by decide +kernel
theorem d_Md_segments_27 : decode prog_14_method_72_code 27 = .ok (.istore_n 3, 1) := by decide +kernel
theorem d_Md_segments_28 : decode prog_14_method_72_code 28 = .ok (.iload_n 3, 1) := by decide +kernel
theorem d_Md_segments_29 : decode prog_14_method_72_code 29 = .ok (.ifCond .ne 6, 3) := by decide +kernel
theorem d_Md_segments_32 : decode prog_14_method_72_code 32 = .ok (.goto 155, 3) := by decide +kernel
theorem d_Md_segments_35 : decode prog_14_method_72_code 35 = .ok (.iload_n 3, 1) := by decide +kernel
theorem d_Md_segments_36 : decode prog_14_method_72_code 36 = .ok (.iconst 1, 1) := by decide +kernel
theorem d_Md_segments_37 : decode prog_14_method_72_code 37 = .ok (.if_icmp .ne 7, 3) := by decide +kernel
theorem d_Md_segments_40 : decode prog_14_method_72_code 40 = .ok (.iconst 0, 1) := by decide +kernel
theorem d_Md_segments_41 : decode prog_14_method_72_code 41 = .ok (.goto 22, 3) := by decide +kernel
theorem d_Md_segments_44 : decode prog_14_method_72_code 44 = .ok (.iload_n 3, 1) := by decide +kernel
theorem d_Md_segments_45 : decode prog_14_method_72_code 45 = .ok (.iconst 2, 1) := by decide +kernel
theorem d_Md_segments_46 : decode prog_14_method_72_code 46 = .ok (.if_icmp .ne 7, 3) := by decide +kernel
theorem d_Md_segments_49 : decode prog_14_method_72_code 49 = .ok (.iconst 1, 1) := by decide +kernel
theorem d_Md_segments_50 : decode prog_14_method_72_code 50 = .ok (.goto 13, 3) := by decide +kernel
theorem d_Md_segments_53 : decode prog_14_method_72_code 53 = .ok (.iload_n 3, 1) := by decide +kernel
theorem d_Md_segments_54 : decode prog_14_method_72_code 54 = .ok (.iconst 4, 1) := by decide +kernel
theorem d_Md_segments_55 : decode prog_14_method_72_code 55 = .ok (.if_icmp .ne 7, 3) := by decide +kernel
theorem d_Md_segments_58 : decode prog_14_method_72_code 58 = .ok (.iconst 2, 1) := by decide +kernel
theorem d_Md_segments_59 : decode prog_14_method_72_code 59 = .ok (.goto 4, 3) := by decide +kernel
theorem d_Md_segments_62 : decode prog_14_method_72_code 62 = .ok (.iconst (-1), 1) := by decide +kernel
theorem d_Md_segments_63 : decode prog_14_method_72_code 63 = .ok (.istore 4, 2) := by decide +kernel
theorem d_Md_segments_65 : decode prog_14_method_72_code 65 = .ok (.iload 4, 2) := by decide +kernel
theorem d_Md_segments_67 : decode prog_14_method_72_code 67 = .ok (.ifCond .ge 9, 3) := by decide +kernel
theorem d_Md_segments_70 : decode prog_14_method_72_code 70 = .ok (.aload_n 0, 1) := by decide +kernel
theorem d_Md_segments_71 : decode prog_14_method_72_code 71 = .ok (.iconst 3, 1) := by decide +kernel
theorem d_Md_segments_72 : decode prog_14_method_72_code 72 = .ok (.putfield 285, 3) := by decide +kernel
theorem d_Md_segments_75 : decode prog_14_method_72_code 75 = .ok (.return_, 1) := by decide +kernel
theorem d_Md_segments_76 : decode prog_14_method_72_code 76 = .ok (.aload_n 0, 1) := by decide +kernel
theorem d_Md_segments_77 : decode prog_14_method_72_code 77 = .ok (.iload 4, 2) := by decide +kernel
theorem d_Md_segments_79 : decode prog_14_method_72_code 79 = .ok (.iload_n 1, 1) := by decide +kernel
theorem d_Md_segments_80 : decode prog_14_method_72_code 80 = .ok (.invokestatic 134, 3) := by decide +kernel
theorem d_Md_segments_83 : decode prog_14_method_72_code 83 = .ok (.invokestatic 99, 3) := by decide +kernel
theorem d_Md_segments_86 : decode prog_14_method_72_code 86 = .ok (.invokevirtual 291, 3) := by decide +kernel
theorem d_Md_segments_89 : decode prog_14_method_72_code 89 = .ok (.istore 5, 2) := by decide +kernel
theorem d_Md_segments_91 : decode prog_14_method_72_code 91 = .ok (.aload_n 0, 1) := by decide +kernel
theorem d_Md_segments_92 : decode prog_14_method_72_code 92 = .ok (.getfield 285, 3) := by decide +kernel
theorem d_Md_segments_95 : decode prog_14_method_72_code 95 = .ok (.ifCond .ne 22, 3) := by decide +kernel
theorem d_Md_segments_98 : decode prog_14_method_72_code 98 = .ok (.aload_n 0, 1) := by decide +kernel
theorem d_Md_segments_99 : decode prog_14_method_72_code 99 = .ok (.getfield 288, 3) := by decide +kernel
theorem d_Md_segments_102 : decode prog_14_method_72_code 102 = .ok (.iload 5, 2) := by decide +kernel
theorem d_Md_segments_104 : decode prog_14_method_72_code 104 = .ok (.iadd, 1) := by decide +kernel
theorem d_Md_segments_105 : decode prog_14_method_72_code 105 = .ok (.sipush 3000, 3) := by decide +kernel
theorem d_Md_segments_108 : decode prog_14_method_72_code 108 = .ok (.if_icmp .le 9, 3) := by decide +kernel
theorem d_Md_segments_111 : decode prog_14_method_72_code 111 = .ok (.aload_n 0, 1) := by decide +kernel
theorem d_Md_segments_112 : decode prog_14_method_72_code 112 = .ok (.bipush 6, 2) := by decide +kernel
theorem d_Md_segments_114 : decode prog_14_method_72_code 114 = .ok (.putfield 285, 3) := by decide +kernel
theorem d_Md_segments_117 : decode prog_14_method_72_code 117 = .ok (.iload 4, 2) := by decide +kernel
theorem d_Md_segments_119 : decode prog_14_method_72_code 119 = .ok (.ifCond .ne 7, 3) := by decide +kernel
theorem d_Md_segments_122 : decode prog_14_method_72_code 122 = .ok (.iconst 3, 1) := by decide +kernel
theorem d_Md_segments_123 : decode prog_14_method_72_code 123 = .ok (.goto 14, 3) := by decide +kernel
theorem d_Md_segments_126 : decode prog_14_method_72_code 126 = .ok (.iload 4, 2) := by decide +kernel
theorem d_Md_segments_128 : decode prog_14_method_72_code 128 = .ok (.iconst 1, 1) := by decide +kernel
theorem d_Md_segments_129 : decode prog_14_method_72_code 129 = .ok (.if_icmp .ne 7, 3) := by decide +kernel
theorem d_Md_segments_132 : decode prog_14_method_72_code 132 = .ok (.iconst 2, 1) := by decide +kernel
theorem d_Md_segments_133 : decode prog_14_method_72_code 133 = .ok (.goto 4, 3) := by decide +kernel
theorem d_Md_segments_136 : decode prog_14_method_72_code 136 = .ok (.iconst 1, 1) := by decide +kernel
theorem d_Md_segments_137 : decode prog_14_method_72_code 137 = .ok (.istore 6, 2) := by decide +kernel
theorem d_Md_segments_139 : decode prog_14_method_72_code 139 = .ok (.aload_n 0, 1) := by decide +kernel
theorem d_Md_segments_140 : decode prog_14_method_72_code 140 = .ok (.getfield 285, 3) := by decide +kernel
theorem d_Md_segments_143 : decode prog_14_method_72_code 143 = .ok (.ifCond .ne 38, 3) := by decide +kernel
theorem d_Md_segments_146 : decode prog_14_method_72_code 146 = .ok (.iload 5, 2) := by decide +kernel
theorem d_Md_segments_148 : decode prog_14_method_72_code 148 = .ok (.ifCond .le 33, 3) := by decide +kernel
theorem d_Md_segments_151 : decode prog_14_method_72_code 151 = .ok (.aload_n 0, 1) := by decide +kernel
theorem d_Md_segments_152 : decode prog_14_method_72_code 152 = .ok (.iload 4, 2) := by decide +kernel
theorem d_Md_segments_154 : decode prog_14_method_72_code 154 = .ok (.iload 5, 2) := by decide +kernel
theorem d_Md_segments_156 : decode prog_14_method_72_code 156 = .ok (.iload 6, 2) := by decide +kernel
theorem d_Md_segments_158 : decode prog_14_method_72_code 158 = .ok (.if_icmp .ge 8, 3) := by decide +kernel
theorem d_Md_segments_161 : decode prog_14_method_72_code 161 = .ok (.iload 5, 2) := by decide +kernel
theorem d_Md_segments_163 : decode prog_14_method_72_code 163 = .ok (.goto 5, 3) := by decide +kernel
theorem d_Md_segments_166 : decode prog_14_method_72_code 166 = .ok (.iload 6, 2) := by decide +kernel
theorem d_Md_segments_168 : decode prog_14_method_72_code 168 = .ok (.invokevirtual 300, 3) := by decide +kernel
theorem d_Md_segments_171 : decode prog_14_method_72_code 171 = .ok (.iload 5, 2) := by decide +kernel
theorem d_Md_segments_173 : decode prog_14_method_72_code 173 = .ok (.iload 6, 2) := by decide +kernel
theorem d_Md_segments_175 : decode prog_14_method_72_code 175 = .ok (.isub, 1) := by decide +kernel
theorem d_Md_segments_176 : decode prog_14_method_72_code 176 = .ok (.istore 5, 2) := by decide +kernel
theorem d_Md_segments_178 : decode prog_14_method_72_code 178 = .ok (.goto (-39), 3) := by decide +kernel
theorem d_Md_segments_181 : decode prog_14_method_72_code 181 = .ok (.iinc 2 1, 3) := by decide +kernel
theorem d_Md_segments_184 : decode prog_14_method_72_code 184 = .ok (.goto (-182), 3) := by decide +kernel
theorem d_Md_segments_187 : decode prog_14_method_72_code 187 = .ok (.aload_n 0, 1) := by decide +kernel
theorem d_Md_segments_188 : decode prog_14_method_72_code 188 = .ok (.getfield 70, 3) := by decide +kernel
theorem d_Md_segments_191 : decode prog_14_method_72_code 191 = .ok (.iconst 3, 1) := by decide +kernel
theorem d_Md_segments_192 : decode prog_14_method_72_code 192 = .ok (.iload_n 2, 1) := by decide +kernel
theorem d_Md_segments_193 : decode prog_14_method_72_code 193 = .ok (.iastore, 1) := by decide +kernel
theorem d_Md_segments_194 : decode prog_14_method_72_code 194 = .ok (.return_, 1) := by decide +kernel
theorem d_Md_next_0 : decode prog_14_method_69_code 0 = .ok (.aload_n 0, 1) := by decide +kernel
theorem d_Md_next_1 : decode prog_14_method_69_code 1 = .ok (.getfield 279, 3) := by decide +kernel
theorem d_Md_next_4 : decode prog_14_method_69_code 4 = .ok (.iload_n 1, 1) := by decide +kernel
theorem d_Md_next_5 : decode prog_14_method_69_code 5 = .ok (.iadd, 1) := by decide +kernel
theorem d_Md_next_6 : decode prog_14_method_69_code 6 = .ok (.aload_n 0, 1) := by decide +kernel
theorem d_Md_next_7 : decode prog_14_method_69_code 7 = .ok (.getfield 282, 3) := by decide +kernel
theorem d_Md_next_10 : decode prog_14_method_69_code 10 = .ok (.if_icmp .le 10, 3) := by decide +kernel
theorem d_Md_next_13 : decode prog_14_method_69_code 13 = .ok (.aload_n 0, 1) := by decide +kernel
theorem d_Md_next_14 : decode prog_14_method_69_code 14 = .ok (.iconst 4, 1) := by decide +kernel
theorem d_Md_next_15 : decode prog_14_method_69_code 15 = .ok (.putfield 285, 3) := by decide +kernel
theorem d_Md_next_18 : decode prog_14_method_69_code 18 = .ok (.iconst 0, 1) := by decide +kernel
theorem d_Md_next_19 : decode prog_14_method_69_code 19 = .ok (.ireturn, 1) := by decide +kernel
theorem d_Md_next_20 : decode prog_14_method_69_code 20 = .ok (.iconst 0, 1) := by decide +kernel
theorem d_Md_next_21 : decode prog_14_method_69_code 21 = .ok (.istore_n 2, 1) := by decide +kernel
theorem d_Md_next_22 : decode prog_14_method_69_code 22 = .ok (.iconst 0, 1) := by decide +kernel
theorem d_Md_next_23 : decode prog_14_method_69_code 23 = .ok (.istore_n 3, 1) := by decide +kernel
theorem d_Md_next_24 : decode prog_14_method_69_code 24 = .ok (.iload_n 3, 1) := by decide +kernel
theorem d_Md_next_25 : decode prog_14_method_69_code 25 = .ok (.iload_n 1, 1) := by decide +kernel
theorem d_Md_next_26 : decode prog_14_method_69_code 26 = .ok (.if_icmp .ge 49, 3) := by decide +kernel
theorem d_Md_next_29 : decode prog_14_method_69_code 29 = .ok (.iconst 2, 1) := by decide +kernel
theorem d_Md_next_30 : decode prog_14_method_69_code 30 = .ok (.iload_n 2, 1) := by decide +kernel
theorem d_Md_next_31 : decode prog_14_method_69_code 31 = .ok (.imul, 1) := by decide +kernel
theorem d_Md_next_32 : decode prog_14_method_69_code 32 = .ok (.aload_n 0, 1) := by decide +kernel
theorem d_Md_next_33 : decode prog_14_method_69_code 33 = .ok (.getfield 40, 3) := by decide +kernel
theorem d_Md_next_36 : decode prog_14_method_69_code 36 = .ok (.aload_n 0, 1) := by decide +kernel
theorem d_Md_next_37 : decode prog_14_method_69_code 37 = .ok (.getfield 279, 3) := by decide +kernel
theorem d_Md_next_40 : decode prog_14_method_69_code 40 = .ok (.bipush 8, 2) := by decide +kernel
theorem d_Md_next_42 : decode prog_14_method_69_code 42 = .ok (.idiv, 1) := by decide +kernel
theorem d_Md_next_43 : decode prog_14_method_69_code 43 = .ok (.iaload, 1) := by decide +kernel
theorem d_Md_next_44 : decode prog_14_method_69_code 44 = .ok (.bipush 7, 2) := by decide +kernel
theorem d_Md_next_46 : decode prog_14_method_69_code 46 = .ok (.aload_n 0, 1) := by decide +kernel
theorem d_Md_next_47 : decode prog_14_method_69_code 47 = .ok (.getfield 279, 3) := by decide +kernel
theorem d_Md_next_50 : decode prog_14_method_69_code 50 = .ok (.bipush 8, 2) := by decide +kernel
theorem d_Md_next_52 : decode prog_14_method_69_code 52 = .ok (.irem, 1) := by decide +kernel
theorem d_Md_next_53 : decode prog_14_method_69_code 53 = .ok (.isub, 1) := by decide +kernel
theorem d_Md_next_54 : decode prog_14_method_69_code 54 = .ok (.ishr, 1) := by decide +kernel
theorem d_Md_next_55 : decode prog_14_method_69_code 55 = .ok (.iconst 1, 1) := by decide +kernel
theorem d_Md_next_56 : decode prog_14_method_69_code 56 = .ok (.iand, 1) := by decide +kernel
theorem d_Md_next_57 : decode prog_14_method_69_code 57 = .ok (.iadd, 1) := by decide +kernel
theorem d_Md_next_58 : decode prog_14_method_69_code 58 = .ok (.istore_n 2, 1) := by decide +kernel
theorem d_Md_next_59 : decode prog_14_method_69_code 59 = .ok (.aload_n 0, 1) := by decide +kernel
theorem d_Md_next_60 : decode prog_14_method_69_code 60 = .ok (.dup, 1) := by decide +kernel
theorem d_Md_next_61 : decode prog_14_method_69_code 61 = .ok (.getfield 279, 3) := by decide +kernel
theorem d_Md_next_64 : decode prog_14_method_69_code 64 = .ok (.iconst 1, 1) := by decide +kernel
theorem d_Md_next_65 : decode prog_14_method_69_code 65 = .ok (.iadd, 1) := by decide +kernel
theorem d_Md_next_66 : decode prog_14_method_69_code 66 = .ok (.putfield 279, 3) := by decide +kernel
theorem d_Md_next_69 : decode prog_14_method_69_code 69 = .ok (.iinc 3 1, 3) := by decide +kernel
theorem d_Md_next_72 : decode prog_14_method_69_code 72 = .ok (.goto (-48), 3) := by decide +kernel
theorem d_Md_next_75 : decode prog_14_method_69_code 75 = .ok (.iload_n 2, 1) := by decide +kernel
theorem d_Md_next_76 : decode prog_14_method_69_code 76 = .ok (.ireturn, 1) := by decide +kernel
theorem d_Md_group_0 : decode prog_14_method_71_code 0 = .ok (.aload_n 0, 1) := by decide +kernel
theorem d_Md_group_1 : decode prog_14_method_71_code 1 = .ok (.iload_n 1, 1) := by decide +kernel
theorem d_Md_group_2 : decode prog_14_method_71_code 2 = .ok (.ifCond .ne 11, 3) := by decide +kernel
theorem d_Md_group_5 : decode prog_14_method_71_code 5 = .ok (.iconst 3, 1) := by decide +kernel
theorem d_Md_group_6 : decode prog_14_method_71_code 6 = .ok (.iload_n 2, 1) := by decide +kernel
theorem d_Md_group_7 : decode prog_14_method_71_code 7 = .ok (.imul, 1) := by decide +kernel
theorem d_Md_group_8 : decode prog_14_method_71_code 8 = .ok (.iconst 1, 1) := by decide +kernel
theorem d_Md_group_9 : decode prog_14_method_71_code 9 = .ok (.iadd, 1) := by decide +kernel
theorem d_Md_group_10 : decode prog_14_method_71_code 10 = .ok (.goto 18, 3) := by decide +kernel
theorem d_Md_group_13 : decode prog_14_method_71_code 13 = .ok (.iload_n 1, 1) := by decide +kernel
theorem d_Md_group_14 : decode prog_14_method_71_code 14 = .ok (.iconst 1, 1) := by decide +kernel
theorem d_Md_group_15 : decode prog_14_method_71_code 15 = .ok (.if_icmp .ne 11, 3) := by decide +kernel
theorem d_Md_group_18 : decode prog_14_method_71_code 18 = .ok (.iconst 5, 1) := by decide +kernel
theorem d_Md_group_19 : decode prog_14_method_71_code 19 = .ok (.iload_n 2, 1) := by decide +kernel
theorem d_Md_group_20 : decode prog_14_method_71_code 20 = .ok (.imul, 1) := by decide +kernel
theorem d_Md_group_21 : decode prog_14_method_71_code 21 = .ok (.iconst 1, 1) := by decide +kernel
theorem d_Md_group_22 : decode prog_14_method_71_code 22 = .ok (.iadd, 1) := by decide +kernel
theorem d_Md_group_23 : decode prog_14_method_71_code 23 = .ok (.goto 5, 3) := by decide +kernel
theorem d_Md_group_26 : decode prog_14_method_71_code 26 = .ok (.bipush 8, 2) := by decide +kernel
theorem d_Md_group_28 : decode prog_14_method_71_code 28 = .ok (.invokevirtual 291, 3) := by decide +kernel
theorem d_Md_group_31 : decode prog_14_method_71_code 31 = .ok (.istore_n 3, 1) := by decide +kernel
theorem d_Md_group_32 : decode prog_14_method_71_code 32 = .ok (.aload_n 0, 1) := by decide +kernel
theorem d_Md_group_33 : decode prog_14_method_71_code 33 = .ok (.getfield 285, 3) := by decide +kernel
theorem d_Md_group_36 : decode prog_14_method_71_code 36 = .ok (.ifCond .le 4, 3) := by decide +kernel
theorem d_Md_group_39 : decode prog_14_method_71_code 39 = .ok (.return_, 1) := by decide +kernel
theorem d_Md_group_40 : decode prog_14_method_71_code 40 = .ok (.iload_n 1, 1) := by decide +kernel
theorem d_Md_group_41 : decode prog_14_method_71_code 41 = .ok (.ifCond .ne 29, 3) := by decide +kernel
theorem d_Md_group_44 : decode prog_14_method_71_code 44 = .ok (.iload_n 2, 1) := by decide +kernel
theorem d_Md_group_45 : decode prog_14_method_71_code 45 = .ok (.iconst 3, 1) := by decide +kernel
theorem d_Md_group_46 : decode prog_14_method_71_code 46 = .ok (.if_icmp .ne 9, 3) := by decide +kernel
theorem d_Md_group_49 : decode prog_14_method_71_code 49 = .ok (.sipush 1000, 3) := by decide +kernel
theorem d_Md_group_52 : decode prog_14_method_71_code 52 = .ok (.goto 42, 3) := by decide +kernel
theorem d_Md_group_55 : decode prog_14_method_71_code 55 = .ok (.iload_n 2, 1) := by decide +kernel
theorem d_Md_group_56 : decode prog_14_method_71_code 56 = .ok (.iconst 2, 1) := by decide +kernel
theorem d_Md_group_57 : decode prog_14_method_71_code 57 = .ok (.if_icmp .ne 8, 3) := by decide +kernel
theorem d_Md_group_60 : decode prog_14_method_71_code 60 = .ok (.bipush 100, 2) := by decide +kernel
theorem d_Md_group_62 : decode prog_14_method_71_code 62 = .ok (.goto 32, 3) := by decide +kernel
theorem d_Md_group_65 : decode prog_14_method_71_code 65 = .ok (.bipush 10, 2) := by decide +kernel
theorem d_Md_group_67 : decode prog_14_method_71_code 67 = .ok (.goto 27, 3) := by decide +kernel
theorem d_Md_group_70 : decode prog_14_method_71_code 70 = .ok (.iload_n 1, 1) := by decide +kernel
theorem d_Md_group_71 : decode prog_14_method_71_code 71 = .ok (.iconst 1, 1) := by decide +kernel
theorem d_Md_group_72 : decode prog_14_method_71_code 72 = .ok (.if_icmp .ne 19, 3) := by decide +kernel
theorem d_Md_group_75 : decode prog_14_method_71_code 75 = .ok (.iload_n 2, 1) := by decide +kernel
theorem d_Md_group_76 : decode prog_14_method_71_code 76 = .ok (.iconst 2, 1) := by decide +kernel
theorem d_Md_group_77 : decode prog_14_method_71_code 77 = .ok (.if_icmp .ne 9, 3) := by decide +kernel
theorem d_Md_group_80 : decode prog_14_method_71_code 80 = .ok (.sipush 2025, 3) := by decide +kernel
theorem d_Md_group_83 : decode prog_14_method_71_code 83 = .ok (.goto 11, 3) := by decide +kernel
theorem d_Md_group_86 : decode prog_14_method_71_code 86 = .ok (.bipush 45, 2) := by decide +kernel
theorem d_Md_group_88 : decode prog_14_method_71_code 88 = .ok (.goto 6, 3) := by decide +kernel
theorem d_Md_group_91 : decode prog_14_method_71_code 91 = .ok (.sipush 256, 3) := by decide +kernel
theorem d_Md_group_94 : decode prog_14_method_71_code 94 = .ok (.istore 4, 2) := by decide +kernel
theorem d_Md_group_96 : decode prog_14_method_71_code 96 = .ok (.iload_n 3, 1) := by decide +kernel
theorem d_Md_group_97 : decode prog_14_method_71_code 97 = .ok (.iload 4, 2) := by decide +kernel
theorem d_Md_group_99 : decode prog_14_method_71_code 99 = .ok (.if_icmp .lt 9, 3) := by decide +kernel
theorem d_Md_group_102 : decode prog_14_method_71_code 102 = .ok (.aload_n 0, 1) := by decide +kernel
theorem d_Md_group_103 : decode prog_14_method_71_code 103 = .ok (.iconst 5, 1) := by decide +kernel
theorem d_Md_group_104 : decode prog_14_method_71_code 104 = .ok (.putfield 285, 3) := by decide +kernel
theorem d_Md_group_107 : decode prog_14_method_71_code 107 = .ok (.return_, 1) := by decide +kernel
theorem d_Md_group_108 : decode prog_14_method_71_code 108 = .ok (.iload 4, 2) := by decide +kernel
theorem d_Md_group_110 : decode prog_14_method_71_code 110 = .ok (.iload_n 1, 1) := by decide +kernel
theorem d_Md_group_111 : decode prog_14_method_71_code 111 = .ok (.ifCond .ne 8, 3) := by decide +kernel
theorem d_Md_group_114 : decode prog_14_method_71_code 114 = .ok (.bipush 10, 2) := by decide +kernel
theorem d_Md_group_116 : decode prog_14_method_71_code 116 = .ok (.goto 16, 3) := by decide +kernel
theorem d_Md_group_119 : decode prog_14_method_71_code 119 = .ok (.iload_n 1, 1) := by decide +kernel
theorem d_Md_group_120 : decode prog_14_method_71_code 120 = .ok (.iconst 1, 1) := by decide +kernel
theorem d_Md_group_121 : decode prog_14_method_71_code 121 = .ok (.if_icmp .ne 8, 3) := by decide +kernel
theorem d_Md_group_124 : decode prog_14_method_71_code 124 = .ok (.bipush 45, 2) := by decide +kernel
theorem d_Md_group_126 : decode prog_14_method_71_code 126 = .ok (.goto 6, 3) := by decide +kernel
theorem d_Md_group_129 : decode prog_14_method_71_code 129 = .ok (.sipush 256, 3) := by decide +kernel
theorem d_Md_group_132 : decode prog_14_method_71_code 132 = .ok (.idiv, 1) := by decide +kernel
theorem d_Md_group_133 : decode prog_14_method_71_code 133 = .ok (.istore 5, 2) := by decide +kernel
theorem d_Md_group_135 : decode prog_14_method_71_code 135 = .ok (.iload 5, 2) := by decide +kernel
theorem d_Md_group_137 : decode prog_14_method_71_code 137 = .ok (.ifCond .le 75, 3) := by decide +kernel
theorem d_Md_group_140 : decode prog_14_method_71_code 140 = .ok (.iload_n 3, 1) := by decide +kernel
theorem d_Md_group_141 : decode prog_14_method_71_code 141 = .ok (.iload 5, 2) := by decide +kernel
theorem d_Md_group_143 : decode prog_14_method_71_code 143 = .ok (.idiv, 1) := by decide +kernel
theorem d_Md_group_144 : decode prog_14_method_71_code 144 = .ok (.istore 6, 2) := by decide +kernel
theorem d_Md_group_146 : decode prog_14_method_71_code 146 = .ok (.iload_n 3, 1) := by decide +kernel
theorem d_Md_group_147 : decode prog_14_method_71_code 147 = .ok (.iload 5, 2) := by decide +kernel
theorem d_Md_group_149 : decode prog_14_method_71_code 149 = .ok (.irem, 1) := by decide +kernel
theorem d_Md_group_150 : decode prog_14_method_71_code 150 = .ok (.istore_n 3, 1) := by decide +kernel
theorem d_Md_group_151 : decode prog_14_method_71_code 151 = .ok (.aload_n 0, 1) := by decide +kernel
theorem d_Md_group_152 : decode prog_14_method_71_code 152 = .ok (.iload_n 1, 1) := by decide +kernel
theorem d_Md_group_153 : decode prog_14_method_71_code 153 = .ok (.ifCond .ne 11, 3) := by decide +kernel
theorem d_Md_group_156 : decode prog_14_method_71_code 156 = .ok (.bipush 48, 2) := by decide +kernel
theorem d_Md_group_158 : decode prog_14_method_71_code 158 = .ok (.iload 6, 2) := by decide +kernel
theorem d_Md_group_160 : decode prog_14_method_71_code 160 = .ok (.iadd, 1) := by decide +kernel
theorem d_Md_group_161 : decode prog_14_method_71_code 161 = .ok (.goto 18, 3) := by decide +kernel
theorem d_Md_group_164 : decode prog_14_method_71_code 164 = .ok (.iload_n 1, 1) := by decide +kernel
theorem d_Md_group_165 : decode prog_14_method_71_code 165 = .ok (.iconst 1, 1) := by decide +kernel
theorem d_Md_group_166 : decode prog_14_method_71_code 166 = .ok (.if_icmp .ne 11, 3) := by decide +kernel
theorem d_Md_group_169 : decode prog_14_method_71_code 169 = .ok (.iload 6, 2) := by decide +kernel
theorem d_Md_group_171 : decode prog_14_method_71_code 171 = .ok (.invokestatic 294, 3) := by decide +kernel
theorem d_Md_group_174 : decode prog_14_method_71_code 174 = .ok (.goto 5, 3) := by decide +kernel
theorem d_Md_group_177 : decode prog_14_method_71_code 177 = .ok (.iload 6, 2) := by decide +kernel
theorem d_Md_group_179 : decode prog_14_method_71_code 179 = .ok (.invokevirtual 297, 3) := by decide +kernel
theorem d_Md_group_182 : decode prog_14_method_71_code 182 = .ok (.iload 5, 2) := by decide +kernel
theorem d_Md_group_184 : decode prog_14_method_71_code 184 = .ok (.iload_n 1, 1) := by decide +kernel
theorem d_Md_group_185 : decode prog_14_method_71_code 185 = .ok (.ifCond .ne 8, 3) := by decide +kernel
theorem d_Md_group_188 : decode prog_14_method_71_code 188 = .ok (.bipush 10, 2) := by decide +kernel
theorem d_Md_group_190 : decode prog_14_method_71_code 190 = .ok (.goto 16, 3) := by decide +kernel
theorem d_Md_group_193 : decode prog_14_method_71_code 193 = .ok (.iload_n 1, 1) := by decide +kernel
theorem d_Md_group_194 : decode prog_14_method_71_code 194 = .ok (.iconst 1, 1) := by decide +kernel
theorem d_Md_group_195 : decode prog_14_method_71_code 195 = .ok (.if_icmp .ne 8, 3) := by decide +kernel
theorem d_Md_group_198 : decode prog_14_method_71_code 198 = .ok (.bipush 45, 2) := by decide +kernel
theorem d_Md_group_200 : decode prog_14_method_71_code 200 = .ok (.goto 6, 3) := by decide +kernel
theorem d_Md_group_203 : decode prog_14_method_71_code 203 = .ok (.sipush 256, 3) := by decide +kernel
theorem d_Md_group_206 : decode prog_14_method_71_code 206 = .ok (.idiv, 1) := by decide +kernel
theorem d_Md_group_207 : decode prog_14_method_71_code 207 = .ok (.istore 5, 2) := by decide +kernel
theorem d_Md_group_209 : decode prog_14_method_71_code 209 = .ok (.goto (-74), 3) := by decide +kernel
theorem d_Md_group_212 : decode prog_14_method_71_code 212 = .ok (.return_, 1) := by decide +kernel
theorem d_Md_byteOf_0 : decode prog_14_method_15_code 0 = .ok (.iload_n 0, 1) := by decide +kernel
theorem d_Md_byteOf_1 : decode prog_14_method_15_code 1 = .ok (.bipush 10, 2) := by decide +kernel
theorem d_Md_byteOf_3 : decode prog_14_method_15_code 3 = .ok (.if_icmp .ge 8, 3) := by decide +kernel
theorem d_Md_byteOf_6 : decode prog_14_method_15_code 6 = .ok (.bipush 48, 2) := by decide +kernel
theorem d_Md_byteOf_8 : decode prog_14_method_15_code 8 = .ok (.iload_n 0, 1) := by decide +kernel
theorem d_Md_byteOf_9 : decode prog_14_method_15_code 9 = .ok (.iadd, 1) := by decide +kernel
theorem d_Md_byteOf_10 : decode prog_14_method_15_code 10 = .ok (.ireturn, 1) := by decide +kernel
theorem d_Md_byteOf_11 : decode prog_14_method_15_code 11 = .ok (.iload_n 0, 1) := by decide +kernel
theorem d_Md_byteOf_12 : decode prog_14_method_15_code 12 = .ok (.bipush 36, 2) := by decide +kernel
theorem d_Md_byteOf_14 : decode prog_14_method_15_code 14 = .ok (.if_icmp .ge 11, 3) := by decide +kernel
theorem d_Md_byteOf_17 : decode prog_14_method_15_code 17 = .ok (.bipush 65, 2) := by decide +kernel
theorem d_Md_byteOf_19 : decode prog_14_method_15_code 19 = .ok (.iload_n 0, 1) := by decide +kernel
theorem d_Md_byteOf_20 : decode prog_14_method_15_code 20 = .ok (.iadd, 1) := by decide +kernel
theorem d_Md_byteOf_21 : decode prog_14_method_15_code 21 = .ok (.bipush 10, 2) := by decide +kernel
theorem d_Md_byteOf_23 : decode prog_14_method_15_code 23 = .ok (.isub, 1) := by decide +kernel
theorem d_Md_byteOf_24 : decode prog_14_method_15_code 24 = .ok (.ireturn, 1) := by decide +kernel
theorem d_Md_byteOf_25 : decode prog_14_method_15_code 25 = .ok (.iload_n 0, 1) := by decide +kernel
theorem d_Md_byteOf_26 : decode prog_14_method_15_code 26 = .ok (.tableswitch 70 36 43 #[46, 49, 52, 55, 58, 61, 64, 67], 46) := by decide +kernel
theorem d_Md_byteOf_72 : decode prog_14_method_15_code 72 = .ok (.bipush 32, 2) := by decide +kernel
theorem d_Md_byteOf_74 : decode prog_14_method_15_code 74 = .ok (.ireturn, 1) := by decide +kernel
theorem d_Md_byteOf_75 : decode prog_14_method_15_code 75 = .ok (.bipush 36, 2) := by decide +kernel
theorem d_Md_byteOf_77 : decode prog_14_method_15_code 77 = .ok (.ireturn, 1) := by decide +kernel
theorem d_Md_byteOf_78 : decode prog_14_method_15_code 78 = .ok (.bipush 37, 2) := by decide +kernel
theorem d_Md_byteOf_80 : decode prog_14_method_15_code 80 = .ok (.ireturn, 1) := by decide +kernel
theorem d_Md_byteOf_81 : decode prog_14_method_15_code 81 = .ok (.bipush 42, 2) := by decide +kernel
theorem d_Md_byteOf_83 : decode prog_14_method_15_code 83 = .ok (.ireturn, 1) := by decide +kernel
theorem d_Md_byteOf_84 : decode prog_14_method_15_code 84 = .ok (.bipush 43, 2) := by decide +kernel
theorem d_Md_byteOf_86 : decode prog_14_method_15_code 86 = .ok (.ireturn, 1) := by decide +kernel
theorem d_Md_byteOf_87 : decode prog_14_method_15_code 87 = .ok (.bipush 45, 2) := by decide +kernel
theorem d_Md_byteOf_89 : decode prog_14_method_15_code 89 = .ok (.ireturn, 1) := by decide +kernel
theorem d_Md_byteOf_90 : decode prog_14_method_15_code 90 = .ok (.bipush 46, 2) := by decide +kernel
theorem d_Md_byteOf_92 : decode prog_14_method_15_code 92 = .ok (.ireturn, 1) := by decide +kernel
theorem d_Md_byteOf_93 : decode prog_14_method_15_code 93 = .ok (.bipush 47, 2) := by decide +kernel
theorem d_Md_byteOf_95 : decode prog_14_method_15_code 95 = .ok (.ireturn, 1) := by decide +kernel
theorem d_Md_byteOf_96 : decode prog_14_method_15_code 96 = .ok (.bipush 58, 2) := by decide +kernel
theorem d_Md_byteOf_98 : decode prog_14_method_15_code 98 = .ok (.ireturn, 1) := by decide +kernel
theorem d_Md_take_0 : decode prog_14_method_70_code 0 = .ok (.aload_n 0, 1) := by decide +kernel
theorem d_Md_take_1 : decode prog_14_method_70_code 1 = .ok (.getfield 67, 3) := by decide +kernel
theorem d_Md_take_4 : decode prog_14_method_70_code 4 = .ok (.aload_n 0, 1) := by decide +kernel
theorem d_Md_take_5 : decode prog_14_method_70_code 5 = .ok (.getfield 288, 3) := by decide +kernel
theorem d_Md_take_8 : decode prog_14_method_70_code 8 = .ok (.iload_n 1, 1) := by decide +kernel
theorem d_Md_take_9 : decode prog_14_method_70_code 9 = .ok (.iastore, 1) := by decide +kernel
theorem d_Md_take_10 : decode prog_14_method_70_code 10 = .ok (.aload_n 0, 1) := by decide +kernel
theorem d_Md_take_11 : decode prog_14_method_70_code 11 = .ok (.dup, 1) := by decide +kernel
theorem d_Md_take_12 : decode prog_14_method_70_code 12 = .ok (.getfield 288, 3) := by decide +kernel
theorem d_Md_take_15 : decode prog_14_method_70_code 15 = .ok (.iconst 1, 1) := by decide +kernel
theorem d_Md_take_16 : decode prog_14_method_70_code 16 = .ok (.iadd, 1) := by decide +kernel
theorem d_Md_take_17 : decode prog_14_method_70_code 17 = .ok (.putfield 288, 3) := by decide +kernel
theorem d_Md_take_20 : decode prog_14_method_70_code 20 = .ok (.return_, 1) := by decide +kernel
theorem d_Md_fault_0 : decode prog_14_method_74_code 0 = .ok (.aload_n 0, 1) := by decide +kernel
theorem d_Md_fault_1 : decode prog_14_method_74_code 1 = .ok (.iconst 0, 1) := by decide +kernel
theorem d_Md_fault_2 : decode prog_14_method_74_code 2 = .ok (.putfield 73, 3) := by decide +kernel
theorem d_Md_fault_5 : decode prog_14_method_74_code 5 = .ok (.aload_n 0, 1) := by decide +kernel
theorem d_Md_fault_6 : decode prog_14_method_74_code 6 = .ok (.getfield 285, 3) := by decide +kernel
theorem d_Md_fault_9 : decode prog_14_method_74_code 9 = .ok (.ireturn, 1) := by decide +kernel
theorem d_Md_reading_0 : decode prog_14_method_75_code 0 = .ok (.aload_n 0, 1) := by decide +kernel
theorem d_Md_reading_1 : decode prog_14_method_75_code 1 = .ok (.iload_n 1, 1) := by decide +kernel
theorem d_Md_reading_2 : decode prog_14_method_75_code 2 = .ok (.ifCond .lt 8, 3) := by decide +kernel
theorem d_Md_reading_5 : decode prog_14_method_75_code 5 = .ok (.iload_n 1, 1) := by decide +kernel
theorem d_Md_reading_6 : decode prog_14_method_75_code 6 = .ok (.iconst 3, 1) := by decide +kernel
theorem d_Md_reading_7 : decode prog_14_method_75_code 7 = .ok (.if_icmp .le 7, 3) := by decide +kernel
theorem d_Md_reading_10 : decode prog_14_method_75_code 10 = .ok (.iconst 1, 1) := by decide +kernel
theorem d_Md_reading_11 : decode prog_14_method_75_code 11 = .ok (.goto 4, 3) := by decide +kernel
theorem d_Md_reading_14 : decode prog_14_method_75_code 14 = .ok (.iconst 0, 1) := by decide +kernel
theorem d_Md_reading_15 : decode prog_14_method_75_code 15 = .ok (.putfield 73, 3) := by decide +kernel
theorem d_Md_reading_18 : decode prog_14_method_75_code 18 = .ok (.aload_n 0, 1) := by decide +kernel
theorem d_Md_reading_19 : decode prog_14_method_75_code 19 = .ok (.getfield 73, 3) := by decide +kernel
theorem d_Md_reading_22 : decode prog_14_method_75_code 22 = .ok (.ifCond .le 7, 3) := by decide +kernel
theorem d_Md_reading_25 : decode prog_14_method_75_code 25 = .ok (.iconst 0, 1) := by decide +kernel
theorem d_Md_reading_26 : decode prog_14_method_75_code 26 = .ok (.goto 20, 3) := by decide +kernel
theorem d_Md_reading_29 : decode prog_14_method_75_code 29 = .ok (.aload_n 0, 1) := by decide +kernel
theorem d_Md_reading_30 : decode prog_14_method_75_code 30 = .ok (.getfield 303, 3) := by decide +kernel
theorem d_Md_reading_33 : decode prog_14_method_75_code 33 = .ok (.ifCond .eq 12, 3) := by decide +kernel
theorem d_Md_reading_36 : decode prog_14_method_75_code 36 = .ok (.aload_n 0, 1) := by decide +kernel
theorem d_Md_reading_37 : decode prog_14_method_75_code 37 = .ok (.getfield 70, 3) := by decide +kernel
theorem d_Md_reading_40 : decode prog_14_method_75_code 40 = .ok (.iload_n 1, 1) := by decide +kernel
theorem d_Md_reading_41 : decode prog_14_method_75_code 41 = .ok (.iaload, 1) := by decide +kernel
theorem d_Md_reading_42 : decode prog_14_method_75_code 42 = .ok (.goto 4, 3) := by decide +kernel
theorem d_Md_reading_45 : decode prog_14_method_75_code 45 = .ok (.iconst (-1), 1) := by decide +kernel
theorem d_Md_reading_46 : decode prog_14_method_75_code 46 = .ok (.ireturn, 1) := by decide +kernel
