abbrev y_Data_init : MethodName := ⟨"SquareSymbols$Data", "<init>", "()V"⟩
abbrev w_Data_init : List Cond := .code y_Data_init prog_3_method_1_code 1 none :: lw_g
abbrev y_Data_size : MethodName := ⟨"SquareSymbols$Data", "size", "()I"⟩
abbrev w_Data_size : List Cond := .code y_Data_size prog_3_method_2_code 1 (some .int) :: lw_g
abbrev y_Data_clear : MethodName := ⟨"SquareSymbols$Data", "clear", "()V"⟩
abbrev w_Data_clear : List Cond := .code y_Data_clear prog_3_method_5_code 1 none :: lw_g
abbrev y_Data_get : MethodName := ⟨"SquareSymbols$Data", "get", "(I)I"⟩
abbrev w_Data_get : List Cond := .code y_Data_get prog_3_method_6_code 2 (some .int) :: lw_g
abbrev y_Data_add : MethodName := ⟨"SquareSymbols$Data", "add", "(I)V"⟩
abbrev w_Data_add : List Cond := .code y_Data_add prog_3_method_4_code 2 none :: lw_g
abbrev y_Data_hasRoomFor : MethodName := ⟨"SquareSymbols$Data", "hasRoomFor", "(I)Z"⟩
abbrev w_Data_hasRoomFor : List Cond := .code y_Data_hasRoomFor prog_3_method_3_code 2 (some .boolean) :: lw_g
theorem d_Data_init_0 : decode prog_3_method_1_code 0 = .ok (.aload_n 0, 1) := by decide +kernel
theorem d_Data_init_1 : decode prog_3_method_1_code 1 = .ok (.invokespecial 3, 3) := by decide +kernel
theorem d_Data_init_4 : decode prog_3_method_1_code 4 = .ok (.aload_n 0, 1) := by decide +kernel
theorem d_Data_init_5 : decode prog_3_method_1_code 5 = .ok (.sipush 3000, 3) := by decide +kernel
theorem d_Data_init_8 : decode prog_3_method_1_code 8 = .ok (.newarray .byte, 2) := by decide +kernel
theorem d_Data_init_10 : decode prog_3_method_1_code 10 = .ok (.putfield 9, 3) := by decide +kernel
theorem d_Data_init_13 : decode prog_3_method_1_code 13 = .ok (.return_, 1) := by decide +kernel
theorem d_Data_size_0 : decode prog_3_method_2_code 0 = .ok (.aload_n 0, 1) := by decide +kernel
theorem d_Data_size_1 : decode prog_3_method_2_code 1 = .ok (.getfield 15, 3) := by decide +kernel
theorem d_Data_size_4 : decode prog_3_method_2_code 4 = .ok (.ireturn, 1) := by decide +kernel
theorem d_Data_clear_0 : decode prog_3_method_5_code 0 = .ok (.aload_n 0, 1) := by decide +kernel
theorem d_Data_clear_1 : decode prog_3_method_5_code 1 = .ok (.iconst 0, 1) := by decide +kernel
theorem d_Data_clear_2 : decode prog_3_method_5_code 2 = .ok (.putfield 15, 3) := by decide +kernel
theorem d_Data_clear_5 : decode prog_3_method_5_code 5 = .ok (.return_, 1) := by decide +kernel
theorem d_Data_get_0 : decode prog_3_method_6_code 0 = .ok (.iload_n 1, 1) := by decide +kernel
theorem d_Data_get_1 : decode prog_3_method_6_code 1 = .ok (.ifCond .lt 33, 3) := by decide +kernel
theorem d_Data_get_4 : decode prog_3_method_6_code 4 = .ok (.iload_n 1, 1) := by decide +kernel
theorem d_Data_get_5 : decode prog_3_method_6_code 5 = .ok (.aload_n 0, 1) := by decide +kernel
theorem d_Data_get_6 : decode prog_3_method_6_code 6 = .ok (.getfield 15, 3) := by decide +kernel
theorem d_Data_get_9 : decode prog_3_method_6_code 9 = .ok (.if_icmp .ge 25, 3) := by decide +kernel
theorem d_Data_get_12 : decode prog_3_method_6_code 12 = .ok (.iload_n 1, 1) := by decide +kernel
theorem d_Data_get_13 : decode prog_3_method_6_code 13 = .ok (.aload_n 0, 1) := by decide +kernel
theorem d_Data_get_14 : decode prog_3_method_6_code 14 = .ok (.getfield 9, 3) := by decide +kernel
theorem d_Data_get_17 : decode prog_3_method_6_code 17 = .ok (.arraylength, 1) := by decide +kernel
theorem d_Data_get_18 : decode prog_3_method_6_code 18 = .ok (.if_icmp .ge 16, 3) := by decide +kernel
theorem d_Data_get_21 : decode prog_3_method_6_code 21 = .ok (.aload_n 0, 1) := by decide +kernel
theorem d_Data_get_22 : decode prog_3_method_6_code 22 = .ok (.getfield 9, 3) := by decide +kernel
theorem d_Data_get_25 : decode prog_3_method_6_code 25 = .ok (.iload_n 1, 1) := by decide +kernel
theorem d_Data_get_26 : decode prog_3_method_6_code 26 = .ok (.baload, 1) := by decide +kernel
theorem d_Data_get_27 : decode prog_3_method_6_code 27 = .ok (.sipush 255, 3) := by decide +kernel
theorem d_Data_get_30 : decode prog_3_method_6_code 30 = .ok (.iand, 1) := by decide +kernel
theorem d_Data_get_31 : decode prog_3_method_6_code 31 = .ok (.goto 4, 3) := by decide +kernel
theorem d_Data_get_34 : decode prog_3_method_6_code 34 = .ok (.iconst (-1), 1) := by decide +kernel
theorem d_Data_get_35 : decode prog_3_method_6_code 35 = .ok (.ireturn, 1) := by decide +kernel
theorem d_Data_add_0 : decode prog_3_method_4_code 0 = .ok (.aload_n 0, 1) := by decide +kernel
theorem d_Data_add_1 : decode prog_3_method_4_code 1 = .ok (.getfield 15, 3) := by decide +kernel
theorem d_Data_add_4 : decode prog_3_method_4_code 4 = .ok (.ifCond .lt 36, 3) := by decide +kernel
theorem d_Data_add_7 : decode prog_3_method_4_code 7 = .ok (.aload_n 0, 1) := by decide +kernel
theorem d_Data_add_8 : decode prog_3_method_4_code 8 = .ok (.getfield 15, 3) := by decide +kernel
theorem d_Data_add_11 : decode prog_3_method_4_code 11 = .ok (.aload_n 0, 1) := by decide +kernel
theorem d_Data_add_12 : decode prog_3_method_4_code 12 = .ok (.getfield 9, 3) := by decide +kernel
theorem d_Data_add_15 : decode prog_3_method_4_code 15 = .ok (.arraylength, 1) := by decide +kernel
theorem d_Data_add_16 : decode prog_3_method_4_code 16 = .ok (.if_icmp .ge 24, 3) := by decide +kernel
theorem d_Data_add_19 : decode prog_3_method_4_code 19 = .ok (.aload_n 0, 1) := by decide +kernel
theorem d_Data_add_20 : decode prog_3_method_4_code 20 = .ok (.getfield 9, 3) := by decide +kernel
theorem d_Data_add_23 : decode prog_3_method_4_code 23 = .ok (.aload_n 0, 1) := by decide +kernel
theorem d_Data_add_24 : decode prog_3_method_4_code 24 = .ok (.getfield 15, 3) := by decide +kernel
theorem d_Data_add_27 : decode prog_3_method_4_code 27 = .ok (.iload_n 1, 1) := by decide +kernel
theorem d_Data_add_28 : decode prog_3_method_4_code 28 = .ok (.i2b, 1) := by decide +kernel
theorem d_Data_add_29 : decode prog_3_method_4_code 29 = .ok (.bastore, 1) := by decide +kernel
theorem d_Data_add_30 : decode prog_3_method_4_code 30 = .ok (.aload_n 0, 1) := by decide +kernel
theorem d_Data_add_31 : decode prog_3_method_4_code 31 = .ok (.dup, 1) := by decide +kernel
theorem d_Data_add_32 : decode prog_3_method_4_code 32 = .ok (.getfield 15, 3) := by decide +kernel
theorem d_Data_add_35 : decode prog_3_method_4_code 35 = .ok (.iconst 1, 1) := by decide +kernel
theorem d_Data_add_36 : decode prog_3_method_4_code 36 = .ok (.iadd, 1) := by decide +kernel
theorem d_Data_add_37 : decode prog_3_method_4_code 37 = .ok (.putfield 15, 3) := by decide +kernel
theorem d_Data_add_40 : decode prog_3_method_4_code 40 = .ok (.return_, 1) := by decide +kernel
theorem d_Data_hasRoomFor_0 : decode prog_3_method_3_code 0 = .ok (.iload_n 1, 1) := by decide +kernel
theorem d_Data_hasRoomFor_1 : decode prog_3_method_3_code 1 = .ok (.aload_n 0, 1) := by decide +kernel
theorem d_Data_hasRoomFor_2 : decode prog_3_method_3_code 2 = .ok (.getfield 9, 3) := by decide +kernel
theorem d_Data_hasRoomFor_5 : decode prog_3_method_3_code 5 = .ok (.arraylength, 1) := by decide +kernel
theorem d_Data_hasRoomFor_6 : decode prog_3_method_3_code 6 = .ok (.aload_n 0, 1) := by decide +kernel
theorem d_Data_hasRoomFor_7 : decode prog_3_method_3_code 7 = .ok (.getfield 15, 3) := by decide +kernel
theorem d_Data_hasRoomFor_10 : decode prog_3_method_3_code 10 = .ok (.isub, 1) := by decide +kernel
theorem d_Data_hasRoomFor_11 : decode prog_3_method_3_code 11 = .ok (.if_icmp .gt 7, 3) := by decide +kernel
theorem d_Data_hasRoomFor_14 : decode prog_3_method_3_code 14 = .ok (.iconst 1, 1) := by decide +kernel
theorem d_Data_hasRoomFor_15 : decode prog_3_method_3_code 15 = .ok (.goto 4, 3) := by decide +kernel
theorem d_Data_hasRoomFor_18 : decode prog_3_method_3_code 18 = .ok (.iconst 0, 1) := by decide +kernel
theorem d_Data_hasRoomFor_19 : decode prog_3_method_3_code 19 = .ok (.ireturn, 1) := by decide +kernel
abbrev y_Field_init : MethodName := ⟨"SquareSymbols$Field", "<init>", "()V"⟩
abbrev w_Field_init : List Cond := .code y_Field_init prog_5_method_1_code 3 none :: lw_g
abbrev y_Field_power : MethodName := ⟨"SquareSymbols$Field", "power", "(I)I"⟩
abbrev w_Field_power : List Cond := .code y_Field_power prog_5_method_2_code 2 (some .int) :: lw_g
abbrev y_Field_value : MethodName := ⟨"SquareSymbols$Field", "value", "([III)I"⟩
abbrev w_Field_value : List Cond := .code y_Field_value prog_5_method_5_code 6 (some .int) :: lw_g
abbrev y_Field_times : MethodName := ⟨"SquareSymbols$Field", "times", "(II)I"⟩
abbrev w_Field_times : List Cond := .code y_Field_times prog_5_method_3_code 3 (some .int) :: lw_g
abbrev y_Field_over : MethodName := ⟨"SquareSymbols$Field", "over", "(II)I"⟩
abbrev w_Field_over : List Cond := .code y_Field_over prog_5_method_4_code 3 (some .int) :: lw_g
theorem d_Field_init_0 : decode prog_5_method_1_code 0 = .ok (.aload_n 0, 1) := by decide +kernel
theorem d_Field_init_1 : decode prog_5_method_1_code 1 = .ok (.invokespecial 1, 3) := by decide +kernel
theorem d_Field_init_4 : decode prog_5_method_1_code 4 = .ok (.aload_n 0, 1) := by decide +kernel
theorem d_Field_init_5 : decode prog_5_method_1_code 5 = .ok (.sipush 512, 3) := by decide +kernel
theorem d_Field_init_8 : decode prog_5_method_1_code 8 = .ok (.newarray .int, 2) := by decide +kernel
theorem d_Field_init_10 : decode prog_5_method_1_code 10 = .ok (.putfield 7, 3) := by decide +kernel
theorem d_Field_init_13 : decode prog_5_method_1_code 13 = .ok (.aload_n 0, 1) := by decide +kernel
theorem d_Field_init_14 : decode prog_5_method_1_code 14 = .ok (.sipush 256, 3) := by decide +kernel
theorem d_Field_init_17 : decode prog_5_method_1_code 17 = .ok (.newarray .int, 2) := by decide +kernel
theorem d_Field_init_19 : decode prog_5_method_1_code 19 = .ok (.putfield 13, 3) := by decide +kernel
theorem d_Field_init_22 : decode prog_5_method_1_code 22 = .ok (.iconst 1, 1) := by decide +kernel
theorem d_Field_init_23 : decode prog_5_method_1_code 23 = .ok (.istore_n 1, 1) := by decide +kernel
theorem d_Field_init_24 : decode prog_5_method_1_code 24 = .ok (.iconst 0, 1) := by decide +kernel
theorem d_Field_init_25 : decode prog_5_method_1_code 25 = .ok (.istore_n 2, 1) := by decide +kernel
theorem d_Field_init_26 : decode prog_5_method_1_code 26 = .ok (.iload_n 2, 1) := by decide +kernel
theorem d_Field_init_27 : decode prog_5_method_1_code 27 = .ok (.sipush 255, 3) := by decide +kernel
theorem d_Field_init_30 : decode prog_5_method_1_code 30 = .ok (.if_icmp .ge 51, 3) := by decide +kernel
theorem d_Field_init_33 : decode prog_5_method_1_code 33 = .ok (.aload_n 0, 1) := by decide +kernel
theorem d_Field_init_34 : decode prog_5_method_1_code 34 = .ok (.getfield 7, 3) := by decide +kernel
theorem d_Field_init_37 : decode prog_5_method_1_code 37 = .ok (.iload_n 2, 1) := by decide +kernel
theorem d_Field_init_38 : decode prog_5_method_1_code 38 = .ok (.iload_n 1, 1) := by decide +kernel
theorem d_Field_init_39 : decode prog_5_method_1_code 39 = .ok (.iastore, 1) := by decide +kernel
theorem d_Field_init_40 : decode prog_5_method_1_code 40 = .ok (.aload_n 0, 1) := by decide +kernel
theorem d_Field_init_41 : decode prog_5_method_1_code 41 = .ok (.getfield 7, 3) := by decide +kernel
theorem d_Field_init_44 : decode prog_5_method_1_code 44 = .ok (.iload_n 2, 1) := by decide +kernel
theorem d_Field_init_45 : decode prog_5_method_1_code 45 = .ok (.sipush 255, 3) := by decide +kernel
theorem d_Field_init_48 : decode prog_5_method_1_code 48 = .ok (.iadd, 1) := by decide +kernel
theorem d_Field_init_49 : decode prog_5_method_1_code 49 = .ok (.iload_n 1, 1) := by decide +kernel
theorem d_Field_init_50 : decode prog_5_method_1_code 50 = .ok (.iastore, 1) := by decide +kernel
theorem d_Field_init_51 : decode prog_5_method_1_code 51 = .ok (.aload_n 0, 1) := by decide +kernel
theorem d_Field_init_52 : decode prog_5_method_1_code 52 = .ok (.getfield 13, 3) := by decide +kernel
theorem d_Field_init_55 : decode prog_5_method_1_code 55 = .ok (.iload_n 1, 1) := by decide +kernel
theorem d_Field_init_56 : decode prog_5_method_1_code 56 = .ok (.sipush 255, 3) := by decide +kernel
theorem d_Field_init_59 : decode prog_5_method_1_code 59 = .ok (.iand, 1) := by decide +kernel
theorem d_Field_init_60 : decode prog_5_method_1_code 60 = .ok (.iload_n 2, 1) := by decide +kernel
theorem d_Field_init_61 : decode prog_5_method_1_code 61 = .ok (.iastore, 1) := by decide +kernel
theorem d_Field_init_62 : decode prog_5_method_1_code 62 = .ok (.iload_n 1, 1) := by decide +kernel
theorem d_Field_init_63 : decode prog_5_method_1_code 63 = .ok (.iconst 1, 1) := by decide +kernel
theorem d_Field_init_64 : decode prog_5_method_1_code 64 = .ok (.ishl, 1) := by decide +kernel
theorem d_Field_init_65 : decode prog_5_method_1_code 65 = .ok (.iload_n 1, 1) := by decide +kernel
theorem d_Field_init_66 : decode prog_5_method_1_code 66 = .ok (.bipush 7, 2) := by decide +kernel
theorem d_Field_init_68 : decode prog_5_method_1_code 68 = .ok (.ishr, 1) := by decide +kernel
theorem d_Field_init_69 : decode prog_5_method_1_code 69 = .ok (.sipush 285, 3) := by decide +kernel
theorem d_Field_init_72 : decode prog_5_method_1_code 72 = .ok (.imul, 1) := by decide +kernel
theorem d_Field_init_73 : decode prog_5_method_1_code 73 = .ok (.ixor, 1) := by decide +kernel
theorem d_Field_init_74 : decode prog_5_method_1_code 74 = .ok (.istore_n 1, 1) := by decide +kernel
theorem d_Field_init_75 : decode prog_5_method_1_code 75 = .ok (.iinc 2 1, 3) := by decide +kernel
theorem d_Field_init_78 : decode prog_5_method_1_code 78 = .ok (.goto (-52), 3) := by decide +kernel
theorem d_Field_init_81 : decode prog_5_method_1_code 81 = .ok (.return_, 1) := by decide +kernel
theorem d_Field_power_0 : decode prog_5_method_2_code 0 = .ok (.aload_n 0, 1) := by decide +kernel
theorem d_Field_power_1 : decode prog_5_method_2_code 1 = .ok (.getfield 7, 3) := by decide +kernel
theorem d_Field_power_4 : decode prog_5_method_2_code 4 = .ok (.iload_n 1, 1) := by decide +kernel
theorem d_Field_power_5 : decode prog_5_method_2_code 5 = .ok (.sipush 511, 3) := by decide +kernel
theorem d_Field_power_8 : decode prog_5_method_2_code 8 = .ok (.iand, 1) := by decide +kernel
theorem d_Field_power_9 : decode prog_5_method_2_code 9 = .ok (.iaload, 1) := by decide +kernel
theorem d_Field_power_10 : decode prog_5_method_2_code 10 = .ok (.ireturn, 1) := by decide +kernel
theorem d_Field_value_0 : decode prog_5_method_5_code 0 = .ok (.iconst 0, 1) := by decide +kernel
theorem d_Field_value_1 : decode prog_5_method_5_code 1 = .ok (.istore 4, 2) := by decide +kernel
theorem d_Field_value_3 : decode prog_5_method_5_code 3 = .ok (.iload_n 2, 1) := by decide +kernel
theorem d_Field_value_4 : decode prog_5_method_5_code 4 = .ok (.aload_n 1, 1) := by decide +kernel
theorem d_Field_value_5 : decode prog_5_method_5_code 5 = .ok (.arraylength, 1) := by decide +kernel
theorem d_Field_value_6 : decode prog_5_method_5_code 6 = .ok (.invokestatic 16, 3) := by decide +kernel
theorem d_Field_value_9 : decode prog_5_method_5_code 9 = .ok (.iconst 1, 1) := by decide +kernel
theorem d_Field_value_10 : decode prog_5_method_5_code 10 = .ok (.isub, 1) := by decide +kernel
theorem d_Field_value_11 : decode prog_5_method_5_code 11 = .ok (.istore 5, 2) := by decide +kernel
theorem d_Field_value_13 : decode prog_5_method_5_code 13 = .ok (.iload 5, 2) := by decide +kernel
theorem d_Field_value_15 : decode prog_5_method_5_code 15 = .ok (.ifCond .lt 23, 3) := by decide +kernel
theorem d_Field_value_18 : decode prog_5_method_5_code 18 = .ok (.aload_n 0, 1) := by decide +kernel
theorem d_Field_value_19 : decode prog_5_method_5_code 19 = .ok (.iload 4, 2) := by decide +kernel
theorem d_Field_value_21 : decode prog_5_method_5_code 21 = .ok (.iload_n 3, 1) := by decide +kernel
theorem d_Field_value_22 : decode prog_5_method_5_code 22 = .ok (.invokevirtual 22, 3) := by decide +kernel
theorem d_Field_value_25 : decode prog_5_method_5_code 25 = .ok (.aload_n 1, 1) := by decide +kernel
theorem d_Field_value_26 : decode prog_5_method_5_code 26 = .ok (.iload 5, 2) := by decide +kernel
theorem d_Field_value_28 : decode prog_5_method_5_code 28 = .ok (.iaload, 1) := by decide +kernel
theorem d_Field_value_29 : decode prog_5_method_5_code 29 = .ok (.ixor, 1) := by decide +kernel
theorem d_Field_value_30 : decode prog_5_method_5_code 30 = .ok (.istore 4, 2) := by decide +kernel
theorem d_Field_value_32 : decode prog_5_method_5_code 32 = .ok (.iinc 5 (-1), 3) := by decide +kernel
theorem d_Field_value_35 : decode prog_5_method_5_code 35 = .ok (.goto (-22), 3) := by decide +kernel
theorem d_Field_value_38 : decode prog_5_method_5_code 38 = .ok (.iload 4, 2) := by decide +kernel
theorem d_Field_value_40 : decode prog_5_method_5_code 40 = .ok (.ireturn, 1) := by decide +kernel
theorem d_Field_times_0 : decode prog_5_method_3_code 0 = .ok (.iload_n 1, 1) := by decide +kernel
theorem d_Field_times_1 : decode prog_5_method_3_code 1 = .ok (.ifCond .eq 7, 3) := by decide +kernel
theorem d_Field_times_4 : decode prog_5_method_3_code 4 = .ok (.iload_n 2, 1) := by decide +kernel
theorem d_Field_times_5 : decode prog_5_method_3_code 5 = .ok (.ifCond .ne 7, 3) := by decide +kernel
theorem d_Field_times_8 : decode prog_5_method_3_code 8 = .ok (.iconst 0, 1) := by decide +kernel
theorem d_Field_times_9 : decode prog_5_method_3_code 9 = .ok (.goto 33, 3) := by decide +kernel
theorem d_Field_times_12 : decode prog_5_method_3_code 12 = .ok (.aload_n 0, 1) := by decide +kernel
theorem d_Field_times_13 : decode prog_5_method_3_code 13 = .ok (.getfield 7, 3) := by decide +kernel
theorem d_Field_times_16 : decode prog_5_method_3_code 16 = .ok (.aload_n 0, 1) := by decide +kernel
theorem d_Field_times_17 : decode prog_5_method_3_code 17 = .ok (.getfield 13, 3) := by decide +kernel
theorem d_Field_times_20 : decode prog_5_method_3_code 20 = .ok (.iload_n 1, 1) := by decide +kernel
theorem d_Field_times_21 : decode prog_5_method_3_code 21 = .ok (.sipush 255, 3) := by decide +kernel
theorem d_Field_times_24 : decode prog_5_method_3_code 24 = .ok (.iand, 1) := by decide +kernel
theorem d_Field_times_25 : decode prog_5_method_3_code 25 = .ok (.iaload, 1) := by decide +kernel
theorem d_Field_times_26 : decode prog_5_method_3_code 26 = .ok (.aload_n 0, 1) := by decide +kernel
theorem d_Field_times_27 : decode prog_5_method_3_code 27 = .ok (.getfield 13, 3) := by decide +kernel
theorem d_Field_times_30 : decode prog_5_method_3_code 30 = .ok (.iload_n 2, 1) := by decide +kernel
theorem d_Field_times_31 : decode prog_5_method_3_code 31 = .ok (.sipush 255, 3) := by decide +kernel
theorem d_Field_times_34 : decode prog_5_method_3_code 34 = .ok (.iand, 1) := by decide +kernel
theorem d_Field_times_35 : decode prog_5_method_3_code 35 = .ok (.iaload, 1) := by decide +kernel
theorem d_Field_times_36 : decode prog_5_method_3_code 36 = .ok (.iadd, 1) := by decide +kernel
theorem d_Field_times_37 : decode prog_5_method_3_code 37 = .ok (.sipush 511, 3) := by decide +kernel
theorem d_Field_times_40 : decode prog_5_method_3_code 40 = .ok (.iand, 1) := by decide +kernel
theorem d_Field_times_41 : decode prog_5_method_3_code 41 = .ok (.iaload, 1) := by decide +kernel
theorem d_Field_times_42 : decode prog_5_method_3_code 42 = .ok (.ireturn, 1) := by decide +kernel
theorem d_Field_over_0 : decode prog_5_method_4_code 0 = .ok (.iload_n 1, 1) := by decide +kernel
theorem d_Field_over_1 : decode prog_5_method_4_code 1 = .ok (.ifCond .eq 7, 3) := by decide +kernel
theorem d_Field_over_4 : decode prog_5_method_4_code 4 = .ok (.iload_n 2, 1) := by decide +kernel
theorem d_Field_over_5 : decode prog_5_method_4_code 5 = .ok (.ifCond .ne 7, 3) := by decide +kernel
theorem d_Field_over_8 : decode prog_5_method_4_code 8 = .ok (.iconst 0, 1) := by decide +kernel
theorem d_Field_over_9 : decode prog_5_method_4_code 9 = .ok (.goto 37, 3) := by decide +kernel
theorem d_Field_over_12 : decode prog_5_method_4_code 12 = .ok (.aload_n 0, 1) := by decide +kernel
theorem d_Field_over_13 : decode prog_5_method_4_code 13 = .ok (.getfield 7, 3) := by decide +kernel
theorem d_Field_over_16 : decode prog_5_method_4_code 16 = .ok (.aload_n 0, 1) := by decide +kernel
theorem d_Field_over_17 : decode prog_5_method_4_code 17 = .ok (.getfield 13, 3) := by decide +kernel
theorem d_Field_over_20 : decode prog_5_method_4_code 20 = .ok (.iload_n 1, 1) := by decide +kernel
theorem d_Field_over_21 : decode prog_5_method_4_code 21 = .ok (.sipush 255, 3) := by decide +kernel
theorem d_Field_over_24 : decode prog_5_method_4_code 24 = .ok (.iand, 1) := by decide +kernel
theorem d_Field_over_25 : decode prog_5_method_4_code 25 = .ok (.iaload, 1) := by decide +kernel
theorem d_Field_over_26 : decode prog_5_method_4_code 26 = .ok (.sipush 255, 3) := by decide +kernel
theorem d_Field_over_29 : decode prog_5_method_4_code 29 = .ok (.iadd, 1) := by decide +kernel
theorem d_Field_over_30 : decode prog_5_method_4_code 30 = .ok (.aload_n 0, 1) := by decide +kernel
theorem d_Field_over_31 : decode prog_5_method_4_code 31 = .ok (.getfield 13, 3) := by decide +kernel
theorem d_Field_over_34 : decode prog_5_method_4_code 34 = .ok (.iload_n 2, 1) := by decide +kernel
theorem d_Field_over_35 : decode prog_5_method_4_code 35 = .ok (.sipush 255, 3) := by decide +kernel
theorem d_Field_over_38 : decode prog_5_method_4_code 38 = .ok (.iand, 1) := by decide +kernel
theorem d_Field_over_39 : decode prog_5_method_4_code 39 = .ok (.iaload, 1) := by decide +kernel
theorem d_Field_over_40 : decode prog_5_method_4_code 40 = .ok (.isub, 1) := by decide +kernel
theorem d_Field_over_41 : decode prog_5_method_4_code 41 = .ok (.sipush 511, 3) := by decide +kernel
theorem d_Field_over_44 : decode prog_5_method_4_code 44 = .ok (.iand, 1) := by decide +kernel
theorem d_Field_over_45 : decode prog_5_method_4_code 45 = .ok (.iaload, 1) := by decide +kernel
theorem d_Field_over_46 : decode prog_5_method_4_code 46 = .ok (.ireturn, 1) := by decide +kernel
abbrev y_Grid_init : MethodName := ⟨"SquareSymbols$Grid", "<init>", "()V"⟩
abbrev w_Grid_init : List Cond := .code y_Grid_init prog_7_method_1_code 1 none :: lw_g
abbrev y_Grid_from : MethodName := ⟨"SquareSymbols$Grid", "from", "(II)J"⟩
abbrev w_Grid_from : List Cond := .code y_Grid_from prog_7_method_8_code 8 (some .long) :: lw_g
abbrev y_Grid_turnFrom : MethodName := ⟨"SquareSymbols$Grid", "turnFrom", "(IIJ)I"⟩
abbrev w_Grid_turnFrom : List Cond := .code y_Grid_turnFrom prog_7_method_9_code 8 (some .int) :: lw_g
abbrev y_Grid_turn : MethodName := ⟨"SquareSymbols$Grid", "turn", "(IIJ)I"⟩
abbrev w_Grid_turn : List Cond := .code y_Grid_turn prog_7_method_10_code 7 (some .int) :: lw_g
abbrev y_Grid_side : MethodName := ⟨"SquareSymbols$Grid", "side", "()I"⟩
abbrev w_Grid_side : List Cond := .code y_Grid_side prog_7_method_2_code 1 (some .int) :: lw_g
abbrev y_Grid_isDark : MethodName := ⟨"SquareSymbols$Grid", "isDark", "(II)Z"⟩
abbrev w_Grid_isDark : List Cond := .code y_Grid_isDark prog_7_method_6_code 3 (some .boolean) :: lw_g
abbrev y_Grid_isInside : MethodName := ⟨"SquareSymbols$Grid", "isInside", "(II)Z"⟩
abbrev w_Grid_isInside : List Cond := .code y_Grid_isInside prog_7_method_5_code 3 (some .boolean) :: lw_g
abbrev y_Grid_clear : MethodName := ⟨"SquareSymbols$Grid", "clear", "(I)V"⟩
abbrev w_Grid_clear : List Cond := .code y_Grid_clear prog_7_method_3_code 2 none :: lw_g
abbrev y_Grid_set : MethodName := ⟨"SquareSymbols$Grid", "set", "(IIZ)V"⟩
abbrev w_Grid_set : List Cond := .code y_Grid_set prog_7_method_7_code 7 none :: lw_g
abbrev y_Grid_copy : MethodName := ⟨"SquareSymbols$Grid", "copy", "(LSquareSymbols$Grid;)V"⟩
abbrev w_Grid_copy : List Cond := .code y_Grid_copy prog_7_method_4_code 2 none :: lw_g
abbrev y_Grid_darkOnes : MethodName := ⟨"SquareSymbols$Grid", "darkOnes", "()I"⟩
abbrev w_Grid_darkOnes : List Cond := .code y_Grid_darkOnes prog_7_method_11_code 3 (some .int) :: lw_g
theorem d_Grid_init_0 : decode prog_7_method_1_code 0 = .ok (.aload_n 0, 1) := by decide +kernel
theorem d_Grid_init_1 : decode prog_7_method_1_code 1 = .ok (.invokespecial 1, 3) := by decide +kernel
theorem d_Grid_init_4 : decode prog_7_method_1_code 4 = .ok (.aload_n 0, 1) := by decide +kernel
theorem d_Grid_init_5 : decode prog_7_method_1_code 5 = .ok (.sipush 531, 3) := by decide +kernel
theorem d_Grid_init_8 : decode prog_7_method_1_code 8 = .ok (.newarray .long, 2) := by decide +kernel
theorem d_Grid_init_10 : decode prog_7_method_1_code 10 = .ok (.putfield 9, 3) := by decide +kernel
theorem d_Grid_init_13 : decode prog_7_method_1_code 13 = .ok (.return_, 1) := by decide +kernel
theorem d_Grid_from_0 : decode prog_7_method_8_code 0 = .ok (.iload_n 2, 1) := by decide +kernel
theorem d_Grid_from_1 : decode prog_7_method_8_code 1 = .ok (.ifCond .lt 25, 3) := by decide +kernel
theorem d_Grid_from_4 : decode prog_7_method_8_code 4 = .ok (.iload_n 2, 1) := by decide +kernel
theorem d_Grid_from_5 : decode prog_7_method_8_code 5 = .ok (.aload_n 0, 1) := by decide +kernel
theorem d_Grid_from_6 : decode prog_7_method_8_code 6 = .ok (.getfield 13, 3) := by decide +kernel
theorem d_Grid_from_9 : decode prog_7_method_8_code 9 = .ok (.if_icmp .ge 17, 3) := by decide +kernel
theorem d_Grid_from_12 : decode prog_7_method_8_code 12 = .ok (.iload_n 1, 1) := by decide +kernel
theorem d_Grid_from_13 : decode prog_7_method_8_code 13 = .ok (.aload_n 0, 1) := by decide +kernel
theorem d_Grid_from_14 : decode prog_7_method_8_code 14 = .ok (.getfield 13, 3) := by decide +kernel
theorem d_Grid_from_17 : decode prog_7_method_8_code 17 = .ok (.if_icmp .ge 9, 3) := by decide +kernel
theorem d_Grid_from_20 : decode prog_7_method_8_code 20 = .ok (.iload_n 1, 1) := by decide +kernel
theorem d_Grid_from_21 : decode prog_7_method_8_code 21 = .ok (.bipush (-64), 2) := by decide +kernel
theorem d_Grid_from_23 : decode prog_7_method_8_code 23 = .ok (.if_icmp .gt 5, 3) := by decide +kernel
theorem d_Grid_from_26 : decode prog_7_method_8_code 26 = .ok (.lconst 0, 1) := by decide +kernel
theorem d_Grid_from_27 : decode prog_7_method_8_code 27 = .ok (.lreturn, 1) := by decide +kernel
theorem d_Grid_from_28 : decode prog_7_method_8_code 28 = .ok (.iload_n 1, 1) := by decide +kernel
theorem d_Grid_from_29 : decode prog_7_method_8_code 29 = .ok (.ifCond .ge 15, 3) := by decide +kernel
theorem d_Grid_from_32 : decode prog_7_method_8_code 32 = .ok (.aload_n 0, 1) := by decide +kernel
theorem d_Grid_from_33 : decode prog_7_method_8_code 33 = .ok (.getfield 9, 3) := by decide +kernel
theorem d_Grid_from_36 : decode prog_7_method_8_code 36 = .ok (.iconst 3, 1) := by decide +kernel
theorem d_Grid_from_37 : decode prog_7_method_8_code 37 = .ok (.iload_n 2, 1) := by decide +kernel
theorem d_Grid_from_38 : decode prog_7_method_8_code 38 = .ok (.imul, 1) := by decide +kernel
theorem d_Grid_from_39 : decode prog_7_method_8_code 39 = .ok (.laload, 1) := by decide +kernel
theorem d_Grid_from_40 : decode prog_7_method_8_code 40 = .ok (.iload_n 1, 1) := by decide +kernel
theorem d_Grid_from_41 : decode prog_7_method_8_code 41 = .ok (.ineg, 1) := by decide +kernel
theorem d_Grid_from_42 : decode prog_7_method_8_code 42 = .ok (.lshl, 1) := by decide +kernel
theorem d_Grid_from_43 : decode prog_7_method_8_code 43 = .ok (.lreturn, 1) := by decide +kernel
theorem d_Grid_from_44 : decode prog_7_method_8_code 44 = .ok (.iload_n 1, 1) := by decide +kernel
theorem d_Grid_from_45 : decode prog_7_method_8_code 45 = .ok (.bipush 6, 2) := by decide +kernel
theorem d_Grid_from_47 : decode prog_7_method_8_code 47 = .ok (.ishr, 1) := by decide +kernel
theorem d_Grid_from_48 : decode prog_7_method_8_code 48 = .ok (.istore_n 3, 1) := by decide +kernel
theorem d_Grid_from_49 : decode prog_7_method_8_code 49 = .ok (.iload_n 1, 1) := by decide +kernel
theorem d_Grid_from_50 : decode prog_7_method_8_code 50 = .ok (.bipush 63, 2) := by decide +kernel
theorem d_Grid_from_52 : decode prog_7_method_8_code 52 = .ok (.iand, 1) := by decide +kernel
theorem d_Grid_from_53 : decode prog_7_method_8_code 53 = .ok (.istore 4, 2) := by decide +kernel
theorem d_Grid_from_55 : decode prog_7_method_8_code 55 = .ok (.aload_n 0, 1) := by decide +kernel
theorem d_Grid_from_56 : decode prog_7_method_8_code 56 = .ok (.getfield 9, 3) := by decide +kernel
theorem d_Grid_from_59 : decode prog_7_method_8_code 59 = .ok (.iconst 3, 1) := by decide +kernel
theorem d_Grid_from_60 : decode prog_7_method_8_code 60 = .ok (.iload_n 2, 1) := by decide +kernel
theorem d_Grid_from_61 : decode prog_7_method_8_code 61 = .ok (.imul, 1) := by decide +kernel
theorem d_Grid_from_62 : decode prog_7_method_8_code 62 = .ok (.iload_n 3, 1) := by decide +kernel
theorem d_Grid_from_63 : decode prog_7_method_8_code 63 = .ok (.iadd, 1) := by decide +kernel
theorem d_Grid_from_64 : decode prog_7_method_8_code 64 = .ok (.laload, 1) := by decide +kernel
theorem d_Grid_from_65 : decode prog_7_method_8_code 65 = .ok (.iload 4, 2) := by decide +kernel
theorem d_Grid_from_67 : decode prog_7_method_8_code 67 = .ok (.lushr, 1) := by decide +kernel
theorem d_Grid_from_68 : decode prog_7_method_8_code 68 = .ok (.lstore 5, 2) := by decide +kernel
theorem d_Grid_from_70 : decode prog_7_method_8_code 70 = .ok (.iload 4, 2) := by decide +kernel
theorem d_Grid_from_72 : decode prog_7_method_8_code 72 = .ok (.ifCond .eq 10, 3) := by decide +kernel
theorem d_Grid_from_75 : decode prog_7_method_8_code 75 = .ok (.iload_n 3, 1) := by decide +kernel
theorem d_Grid_from_76 : decode prog_7_method_8_code 76 = .ok (.iconst 1, 1) := by decide +kernel
theorem d_Grid_from_77 : decode prog_7_method_8_code 77 = .ok (.iadd, 1) := by decide +kernel
theorem d_Grid_from_78 : decode prog_7_method_8_code 78 = .ok (.iconst 3, 1) := by decide +kernel
theorem d_Grid_from_79 : decode prog_7_method_8_code 79 = .ok (.if_icmp .lt 7, 3) := by decide +kernel
theorem d_Grid_from_82 : decode prog_7_method_8_code 82 = .ok (.iconst 1, 1) := by decide +kernel
theorem d_Grid_from_83 : decode prog_7_method_8_code 83 = .ok (.goto 4, 3) := by decide +kernel
theorem d_Grid_from_86 : decode prog_7_method_8_code 86 = .ok (.iconst 0, 1) := by decide +kernel
theorem d_Grid_from_87 : decode prog_7_method_8_code 87 = .ok (.istore 7, 2) := by decide +kernel
theorem d_Grid_from_89 : decode prog_7_method_8_code 89 = .ok (.iload 7, 2) := by decide +kernel
theorem d_Grid_from_91 : decode prog_7_method_8_code 91 = .ok (.ifCond .eq 8, 3) := by decide +kernel
theorem d_Grid_from_94 : decode prog_7_method_8_code 94 = .ok (.lload 5, 2) := by decide +kernel
theorem d_Grid_from_96 : decode prog_7_method_8_code 96 = .ok (.goto 24, 3) := by decide +kernel
theorem d_Grid_from_99 : decode prog_7_method_8_code 99 = .ok (.lload 5, 2) := by decide +kernel
theorem d_Grid_from_101 : decode prog_7_method_8_code 101 = .ok (.aload_n 0, 1) := by decide +kernel
theorem d_Grid_from_102 : decode prog_7_method_8_code 102 = .ok (.getfield 9, 3) := by decide +kernel
theorem d_Grid_from_105 : decode prog_7_method_8_code 105 = .ok (.iconst 3, 1) := by decide +kernel
theorem d_Grid_from_106 : decode prog_7_method_8_code 106 = .ok (.iload_n 2, 1) := by decide +kernel
theorem d_Grid_from_107 : decode prog_7_method_8_code 107 = .ok (.imul, 1) := by decide +kernel
theorem d_Grid_from_108 : decode prog_7_method_8_code 108 = .ok (.iload_n 3, 1) := by decide +kernel
theorem d_Grid_from_109 : decode prog_7_method_8_code 109 = .ok (.iadd, 1) := by decide +kernel
theorem d_Grid_from_110 : decode prog_7_method_8_code 110 = .ok (.iconst 1, 1) := by decide +kernel
theorem d_Grid_from_111 : decode prog_7_method_8_code 111 = .ok (.iadd, 1) := by decide +kernel
theorem d_Grid_from_112 : decode prog_7_method_8_code 112 = .ok (.laload, 1) := by decide +kernel
theorem d_Grid_from_113 : decode prog_7_method_8_code 113 = .ok (.bipush 64, 2) := by decide +kernel
theorem d_Grid_from_115 : decode prog_7_method_8_code 115 = .ok (.iload 4, 2) := by decide +kernel
theorem d_Grid_from_117 : decode prog_7_method_8_code 117 = .ok (.isub, 1) := by decide +kernel
theorem d_Grid_from_118 : decode prog_7_method_8_code 118 = .ok (.lshl, 1) := by decide +kernel
theorem d_Grid_from_119 : decode prog_7_method_8_code 119 = .ok (.lor, 1) := by decide +kernel
theorem d_Grid_from_120 : decode prog_7_method_8_code 120 = .ok (.lreturn, 1) := by decide +kernel
theorem d_Grid_turnFrom_0 : decode prog_7_method_9_code 0 = .ok (.iload_n 2, 1) := by decide +kernel
theorem d_Grid_turnFrom_1 : decode prog_7_method_9_code 1 = .ok (.ifCond .lt 25, 3) := by decide +kernel
theorem d_Grid_turnFrom_4 : decode prog_7_method_9_code 4 = .ok (.iload_n 2, 1) := by decide +kernel
theorem d_Grid_turnFrom_5 : decode prog_7_method_9_code 5 = .ok (.aload_n 0, 1) := by decide +kernel
theorem d_Grid_turnFrom_6 : decode prog_7_method_9_code 6 = .ok (.getfield 13, 3) := by decide +kernel
theorem d_Grid_turnFrom_9 : decode prog_7_method_9_code 9 = .ok (.if_icmp .ge 17, 3) := by decide +kernel
theorem d_Grid_turnFrom_12 : decode prog_7_method_9_code 12 = .ok (.iload_n 1, 1) := by decide +kernel
theorem d_Grid_turnFrom_13 : decode prog_7_method_9_code 13 = .ok (.aload_n 0, 1) := by decide +kernel
theorem d_Grid_turnFrom_14 : decode prog_7_method_9_code 14 = .ok (.getfield 13, 3) := by decide +kernel
theorem d_Grid_turnFrom_17 : decode prog_7_method_9_code 17 = .ok (.if_icmp .ge 9, 3) := by decide +kernel
theorem d_Grid_turnFrom_20 : decode prog_7_method_9_code 20 = .ok (.iload_n 1, 1) := by decide +kernel
theorem d_Grid_turnFrom_21 : decode prog_7_method_9_code 21 = .ok (.bipush (-64), 2) := by decide +kernel
theorem d_Grid_turnFrom_23 : decode prog_7_method_9_code 23 = .ok (.if_icmp .gt 5, 3) := by decide +kernel
theorem d_Grid_turnFrom_26 : decode prog_7_method_9_code 26 = .ok (.iconst 0, 1) := by decide +kernel
theorem d_Grid_turnFrom_27 : decode prog_7_method_9_code 27 = .ok (.ireturn, 1) := by decide +kernel
theorem d_Grid_turnFrom_28 : decode prog_7_method_9_code 28 = .ok (.iload_n 1, 1) := by decide +kernel
theorem d_Grid_turnFrom_29 : decode prog_7_method_9_code 29 = .ok (.ifCond .ge 14, 3) := by decide +kernel
theorem d_Grid_turnFrom_32 : decode prog_7_method_9_code 32 = .ok (.aload_n 0, 1) := by decide +kernel
theorem d_Grid_turnFrom_33 : decode prog_7_method_9_code 33 = .ok (.iconst 0, 1) := by decide +kernel
theorem d_Grid_turnFrom_34 : decode prog_7_method_9_code 34 = .ok (.iload_n 2, 1) := by decide +kernel
theorem d_Grid_turnFrom_35 : decode prog_7_method_9_code 35 = .ok (.lload_n 3, 1) := by decide +kernel
theorem d_Grid_turnFrom_36 : decode prog_7_method_9_code 36 = .ok (.iload_n 1, 1) := by decide +kernel
theorem d_Grid_turnFrom_37 : decode prog_7_method_9_code 37 = .ok (.ineg, 1) := by decide +kernel
theorem d_Grid_turnFrom_38 : decode prog_7_method_9_code 38 = .ok (.lushr, 1) := by decide +kernel
theorem d_Grid_turnFrom_39 : decode prog_7_method_9_code 39 = .ok (.invokevirtual 44, 3) := by decide +kernel
theorem d_Grid_turnFrom_42 : decode prog_7_method_9_code 42 = .ok (.ireturn, 1) := by decide +kernel
theorem d_Grid_turnFrom_43 : decode prog_7_method_9_code 43 = .ok (.iload_n 1, 1) := by decide +kernel
theorem d_Grid_turnFrom_44 : decode prog_7_method_9_code 44 = .ok (.bipush 6, 2) := by decide +kernel
theorem d_Grid_turnFrom_46 : decode prog_7_method_9_code 46 = .ok (.ishr, 1) := by decide +kernel
theorem d_Grid_turnFrom_47 : decode prog_7_method_9_code 47 = .ok (.istore 5, 2) := by decide +kernel
theorem d_Grid_turnFrom_49 : decode prog_7_method_9_code 49 = .ok (.iload_n 1, 1) := by decide +kernel
theorem d_Grid_turnFrom_50 : decode prog_7_method_9_code 50 = .ok (.bipush 63, 2) := by decide +kernel
theorem d_Grid_turnFrom_52 : decode prog_7_method_9_code 52 = .ok (.iand, 1) := by decide +kernel
theorem d_Grid_turnFrom_53 : decode prog_7_method_9_code 53 = .ok (.istore 6, 2) := by decide +kernel
theorem d_Grid_turnFrom_55 : decode prog_7_method_9_code 55 = .ok (.aload_n 0, 1) := by decide +kernel
theorem d_Grid_turnFrom_56 : decode prog_7_method_9_code 56 = .ok (.iload 5, 2) := by decide +kernel
theorem d_Grid_turnFrom_58 : decode prog_7_method_9_code 58 = .ok (.iload_n 2, 1) := by decide +kernel
theorem d_Grid_turnFrom_59 : decode prog_7_method_9_code 59 = .ok (.lload_n 3, 1) := by decide +kernel
theorem d_Grid_turnFrom_60 : decode prog_7_method_9_code 60 = .ok (.iload 6, 2) := by decide +kernel
theorem d_Grid_turnFrom_62 : decode prog_7_method_9_code 62 = .ok (.lshl, 1) := by decide +kernel
theorem d_Grid_turnFrom_63 : decode prog_7_method_9_code 63 = .ok (.invokevirtual 44, 3) := by decide +kernel
theorem d_Grid_turnFrom_66 : decode prog_7_method_9_code 66 = .ok (.istore 7, 2) := by decide +kernel
theorem d_Grid_turnFrom_68 : decode prog_7_method_9_code 68 = .ok (.iload 6, 2) := by decide +kernel
theorem d_Grid_turnFrom_70 : decode prog_7_method_9_code 70 = .ok (.ifCond .ne 8, 3) := by decide +kernel
theorem d_Grid_turnFrom_73 : decode prog_7_method_9_code 73 = .ok (.iload 7, 2) := by decide +kernel
theorem d_Grid_turnFrom_75 : decode prog_7_method_9_code 75 = .ok (.goto 22, 3) := by decide +kernel
theorem d_Grid_turnFrom_78 : decode prog_7_method_9_code 78 = .ok (.iload 7, 2) := by decide +kernel
theorem d_Grid_turnFrom_80 : decode prog_7_method_9_code 80 = .ok (.aload_n 0, 1) := by decide +kernel
theorem d_Grid_turnFrom_81 : decode prog_7_method_9_code 81 = .ok (.iload 5, 2) := by decide +kernel
theorem d_Grid_turnFrom_83 : decode prog_7_method_9_code 83 = .ok (.iconst 1, 1) := by decide +kernel
theorem d_Grid_turnFrom_84 : decode prog_7_method_9_code 84 = .ok (.iadd, 1) := by decide +kernel
theorem d_Grid_turnFrom_85 : decode prog_7_method_9_code 85 = .ok (.iload_n 2, 1) := by decide +kernel
theorem d_Grid_turnFrom_86 : decode prog_7_method_9_code 86 = .ok (.lload_n 3, 1) := by decide +kernel
theorem d_Grid_turnFrom_87 : decode prog_7_method_9_code 87 = .ok (.bipush 64, 2) := by decide +kernel
theorem d_Grid_turnFrom_89 : decode prog_7_method_9_code 89 = .ok (.iload 6, 2) := by decide +kernel
theorem d_Grid_turnFrom_91 : decode prog_7_method_9_code 91 = .ok (.isub, 1) := by decide +kernel
theorem d_Grid_turnFrom_92 : decode prog_7_method_9_code 92 = .ok (.lushr, 1) := by decide +kernel
theorem d_Grid_turnFrom_93 : decode prog_7_method_9_code 93 = .ok (.invokevirtual 44, 3) := by decide +kernel
theorem d_Grid_turnFrom_96 : decode prog_7_method_9_code 96 = .ok (.iadd, 1) := by decide +kernel
theorem d_Grid_turnFrom_97 : decode prog_7_method_9_code 97 = .ok (.ireturn, 1) := by decide +kernel
theorem d_Grid_turn_0 : decode prog_7_method_10_code 0 = .ok (.iload_n 1, 1) := by decide +kernel
theorem d_Grid_turn_1 : decode prog_7_method_10_code 1 = .ok (.ifCond .lt 20, 3) := by decide +kernel
theorem d_Grid_turn_4 : decode prog_7_method_10_code 4 = .ok (.iload_n 1, 1) := by decide +kernel
theorem d_Grid_turn_5 : decode prog_7_method_10_code 5 = .ok (.iconst 3, 1) := by decide +kernel
theorem d_Grid_turn_6 : decode prog_7_method_10_code 6 = .ok (.if_icmp .ge 15, 3) := by decide +kernel
theorem d_Grid_turn_9 : decode prog_7_method_10_code 9 = .ok (.iload_n 2, 1) := by decide +kernel
theorem d_Grid_turn_10 : decode prog_7_method_10_code 10 = .ok (.ifCond .lt 11, 3) := by decide +kernel
theorem d_Grid_turn_13 : decode prog_7_method_10_code 13 = .ok (.iload_n 2, 1) := by decide +kernel
theorem d_Grid_turn_14 : decode prog_7_method_10_code 14 = .ok (.aload_n 0, 1) := by decide +kernel
theorem d_Grid_turn_15 : decode prog_7_method_10_code 15 = .ok (.getfield 13, 3) := by decide +kernel
theorem d_Grid_turn_18 : decode prog_7_method_10_code 18 = .ok (.if_icmp .lt 5, 3) := by decide +kernel
theorem d_Grid_turn_21 : decode prog_7_method_10_code 21 = .ok (.iconst 0, 1) := by decide +kernel
theorem d_Grid_turn_22 : decode prog_7_method_10_code 22 = .ok (.ireturn, 1) := by decide +kernel
theorem d_Grid_turn_23 : decode prog_7_method_10_code 23 = .ok (.lload_n 3, 1) := by decide +kernel
theorem d_Grid_turn_24 : decode prog_7_method_10_code 24 = .ok (.aload_n 0, 1) := by decide +kernel
theorem d_Grid_turn_25 : decode prog_7_method_10_code 25 = .ok (.getfield 13, 3) := by decide +kernel
theorem d_Grid_turn_28 : decode prog_7_method_10_code 28 = .ok (.bipush 64, 2) := by decide +kernel
theorem d_Grid_turn_30 : decode prog_7_method_10_code 30 = .ok (.iload_n 1, 1) := by decide +kernel
theorem d_Grid_turn_31 : decode prog_7_method_10_code 31 = .ok (.imul, 1) := by decide +kernel
theorem d_Grid_turn_32 : decode prog_7_method_10_code 32 = .ok (.isub, 1) := by decide +kernel
theorem d_Grid_turn_33 : decode prog_7_method_10_code 33 = .ok (.invokestatic 48, 3) := by decide +kernel
theorem d_Grid_turn_36 : decode prog_7_method_10_code 36 = .ok (.land, 1) := by decide +kernel
theorem d_Grid_turn_37 : decode prog_7_method_10_code 37 = .ok (.lstore 5, 2) := by decide +kernel
theorem d_Grid_turn_39 : decode prog_7_method_10_code 39 = .ok (.aload_n 0, 1) := by decide +kernel
theorem d_Grid_turn_40 : decode prog_7_method_10_code 40 = .ok (.getfield 9, 3) := by decide +kernel
theorem d_Grid_turn_43 : decode prog_7_method_10_code 43 = .ok (.iconst 3, 1) := by decide +kernel
theorem d_Grid_turn_44 : decode prog_7_method_10_code 44 = .ok (.iload_n 2, 1) := by decide +kernel
theorem d_Grid_turn_45 : decode prog_7_method_10_code 45 = .ok (.imul, 1) := by decide +kernel
theorem d_Grid_turn_46 : decode prog_7_method_10_code 46 = .ok (.iload_n 1, 1) := by decide +kernel
theorem d_Grid_turn_47 : decode prog_7_method_10_code 47 = .ok (.iadd, 1) := by decide +kernel
theorem d_Grid_turn_48 : decode prog_7_method_10_code 48 = .ok (.dup2, 1) := by decide +kernel
theorem d_Grid_turn_49 : decode prog_7_method_10_code 49 = .ok (.laload, 1) := by decide +kernel
theorem d_Grid_turn_50 : decode prog_7_method_10_code 50 = .ok (.lload 5, 2) := by decide +kernel
theorem d_Grid_turn_52 : decode prog_7_method_10_code 52 = .ok (.lxor, 1) := by decide +kernel
theorem d_Grid_turn_53 : decode prog_7_method_10_code 53 = .ok (.lastore, 1) := by decide +kernel
theorem d_Grid_turn_54 : decode prog_7_method_10_code 54 = .ok (.lload 5, 2) := by decide +kernel
theorem d_Grid_turn_56 : decode prog_7_method_10_code 56 = .ok (.invokestatic 54, 3) := by decide +kernel
theorem d_Grid_turn_59 : decode prog_7_method_10_code 59 = .ok (.ireturn, 1) := by decide +kernel
theorem d_Grid_side_0 : decode prog_7_method_2_code 0 = .ok (.aload_n 0, 1) := by decide +kernel
theorem d_Grid_side_1 : decode prog_7_method_2_code 1 = .ok (.getfield 13, 3) := by decide +kernel
theorem d_Grid_side_4 : decode prog_7_method_2_code 4 = .ok (.ireturn, 1) := by decide +kernel
theorem d_Grid_isDark_0 : decode prog_7_method_6_code 0 = .ok (.aload_n 0, 1) := by decide +kernel
theorem d_Grid_isDark_1 : decode prog_7_method_6_code 1 = .ok (.iload_n 1, 1) := by decide +kernel
theorem d_Grid_isDark_2 : decode prog_7_method_6_code 2 = .ok (.iload_n 2, 1) := by decide +kernel
theorem d_Grid_isDark_3 : decode prog_7_method_6_code 3 = .ok (.invokevirtual 38, 3) := by decide +kernel
theorem d_Grid_isDark_6 : decode prog_7_method_6_code 6 = .ok (.ifCond .eq 32, 3) := by decide +kernel
theorem d_Grid_isDark_9 : decode prog_7_method_6_code 9 = .ok (.aload_n 0, 1) := by decide +kernel
theorem d_Grid_isDark_10 : decode prog_7_method_6_code 10 = .ok (.getfield 9, 3) := by decide +kernel
theorem d_Grid_isDark_13 : decode prog_7_method_6_code 13 = .ok (.iconst 3, 1) := by decide +kernel
theorem d_Grid_isDark_14 : decode prog_7_method_6_code 14 = .ok (.iload_n 2, 1) := by decide +kernel
theorem d_Grid_isDark_15 : decode prog_7_method_6_code 15 = .ok (.imul, 1) := by decide +kernel
theorem d_Grid_isDark_16 : decode prog_7_method_6_code 16 = .ok (.iload_n 1, 1) := by decide +kernel
theorem d_Grid_isDark_17 : decode prog_7_method_6_code 17 = .ok (.bipush 6, 2) := by decide +kernel
theorem d_Grid_isDark_19 : decode prog_7_method_6_code 19 = .ok (.ishr, 1) := by decide +kernel
theorem d_Grid_isDark_20 : decode prog_7_method_6_code 20 = .ok (.iadd, 1) := by decide +kernel
theorem d_Grid_isDark_21 : decode prog_7_method_6_code 21 = .ok (.laload, 1) := by decide +kernel
theorem d_Grid_isDark_22 : decode prog_7_method_6_code 22 = .ok (.iload_n 1, 1) := by decide +kernel
theorem d_Grid_isDark_23 : decode prog_7_method_6_code 23 = .ok (.bipush 63, 2) := by decide +kernel
theorem d_Grid_isDark_25 : decode prog_7_method_6_code 25 = .ok (.iand, 1) := by decide +kernel
theorem d_Grid_isDark_26 : decode prog_7_method_6_code 26 = .ok (.lushr, 1) := by decide +kernel
theorem d_Grid_isDark_27 : decode prog_7_method_6_code 27 = .ok (.lconst 1, 1) := by decide +kernel
theorem d_Grid_isDark_28 : decode prog_7_method_6_code 28 = .ok (.land, 1) := by decide +kernel
theorem d_Grid_isDark_29 : decode prog_7_method_6_code 29 = .ok (.lconst 1, 1) := by decide +kernel
theorem d_Grid_isDark_30 : decode prog_7_method_6_code 30 = .ok (.lcmp, 1) := by decide +kernel
theorem d_Grid_isDark_31 : decode prog_7_method_6_code 31 = .ok (.ifCond .ne 7, 3) := by decide +kernel
theorem d_Grid_isDark_34 : decode prog_7_method_6_code 34 = .ok (.iconst 1, 1) := by decide +kernel
theorem d_Grid_isDark_35 : decode prog_7_method_6_code 35 = .ok (.goto 4, 3) := by decide +kernel
theorem d_Grid_isDark_38 : decode prog_7_method_6_code 38 = .ok (.iconst 0, 1) := by decide +kernel
theorem d_Grid_isDark_39 : decode prog_7_method_6_code 39 = .ok (.ireturn, 1) := by decide +kernel
theorem d_Grid_isInside_0 : decode prog_7_method_5_code 0 = .ok (.iload_n 1, 1) := by decide +kernel
theorem d_Grid_isInside_1 : decode prog_7_method_5_code 1 = .ok (.ifCond .lt 27, 3) := by decide +kernel
theorem d_Grid_isInside_4 : decode prog_7_method_5_code 4 = .ok (.iload_n 1, 1) := by decide +kernel
theorem d_Grid_isInside_5 : decode prog_7_method_5_code 5 = .ok (.aload_n 0, 1) := by decide +kernel
theorem d_Grid_isInside_6 : decode prog_7_method_5_code 6 = .ok (.getfield 13, 3) := by decide +kernel
theorem d_Grid_isInside_9 : decode prog_7_method_5_code 9 = .ok (.if_icmp .ge 19, 3) := by decide +kernel
theorem d_Grid_isInside_12 : decode prog_7_method_5_code 12 = .ok (.iload_n 2, 1) := by decide +kernel
theorem d_Grid_isInside_13 : decode prog_7_method_5_code 13 = .ok (.ifCond .lt 15, 3) := by decide +kernel
theorem d_Grid_isInside_16 : decode prog_7_method_5_code 16 = .ok (.iload_n 2, 1) := by decide +kernel
theorem d_Grid_isInside_17 : decode prog_7_method_5_code 17 = .ok (.aload_n 0, 1) := by decide +kernel
theorem d_Grid_isInside_18 : decode prog_7_method_5_code 18 = .ok (.getfield 13, 3) := by decide +kernel
theorem d_Grid_isInside_21 : decode prog_7_method_5_code 21 = .ok (.if_icmp .ge 7, 3) := by decide +kernel
theorem d_Grid_isInside_24 : decode prog_7_method_5_code 24 = .ok (.iconst 1, 1) := by decide +kernel
theorem d_Grid_isInside_25 : decode prog_7_method_5_code 25 = .ok (.goto 4, 3) := by decide +kernel
theorem d_Grid_isInside_28 : decode prog_7_method_5_code 28 = .ok (.iconst 0, 1) := by decide +kernel
theorem d_Grid_isInside_29 : decode prog_7_method_5_code 29 = .ok (.ireturn, 1) := by decide +kernel
theorem d_Grid_clear_0 : decode prog_7_method_3_code 0 = .ok (.aload_n 0, 1) := by decide +kernel
theorem d_Grid_clear_1 : decode prog_7_method_3_code 1 = .ok (.getfield 9, 3) := by decide +kernel
theorem d_Grid_clear_4 : decode prog_7_method_3_code 4 = .ok (.lconst 0, 1) := by decide +kernel
theorem d_Grid_clear_5 : decode prog_7_method_3_code 5 = .ok (.invokestatic 17, 3) := by decide +kernel
theorem d_Grid_clear_8 : decode prog_7_method_3_code 8 = .ok (.aload_n 0, 1) := by decide +kernel
theorem d_Grid_clear_9 : decode prog_7_method_3_code 9 = .ok (.iconst 0, 1) := by decide +kernel
theorem d_Grid_clear_10 : decode prog_7_method_3_code 10 = .ok (.iload_n 1, 1) := by decide +kernel
theorem d_Grid_clear_11 : decode prog_7_method_3_code 11 = .ok (.sipush 177, 3) := by decide +kernel
theorem d_Grid_clear_14 : decode prog_7_method_3_code 14 = .ok (.invokestatic 23, 3) := by decide +kernel
theorem d_Grid_clear_17 : decode prog_7_method_3_code 17 = .ok (.invokestatic 29, 3) := by decide +kernel
theorem d_Grid_clear_20 : decode prog_7_method_3_code 20 = .ok (.putfield 13, 3) := by decide +kernel
theorem d_Grid_clear_23 : decode prog_7_method_3_code 23 = .ok (.return_, 1) := by decide +kernel
theorem d_Grid_set_0 : decode prog_7_method_7_code 0 = .ok (.aload_n 0, 1) := by decide +kernel
theorem d_Grid_set_1 : decode prog_7_method_7_code 1 = .ok (.iload_n 1, 1) := by decide +kernel
theorem d_Grid_set_2 : decode prog_7_method_7_code 2 = .ok (.iload_n 2, 1) := by decide +kernel
theorem d_Grid_set_3 : decode prog_7_method_7_code 3 = .ok (.invokevirtual 38, 3) := by decide +kernel
theorem d_Grid_set_6 : decode prog_7_method_7_code 6 = .ok (.ifCond .eq 59, 3) := by decide +kernel
theorem d_Grid_set_9 : decode prog_7_method_7_code 9 = .ok (.iconst 3, 1) := by decide +kernel
theorem d_Grid_set_10 : decode prog_7_method_7_code 10 = .ok (.iload_n 2, 1) := by decide +kernel
theorem d_Grid_set_11 : decode prog_7_method_7_code 11 = .ok (.imul, 1) := by decide +kernel
theorem d_Grid_set_12 : decode prog_7_method_7_code 12 = .ok (.iload_n 1, 1) := by decide +kernel
theorem d_Grid_set_13 : decode prog_7_method_7_code 13 = .ok (.bipush 6, 2) := by decide +kernel
theorem d_Grid_set_15 : decode prog_7_method_7_code 15 = .ok (.ishr, 1) := by decide +kernel
theorem d_Grid_set_16 : decode prog_7_method_7_code 16 = .ok (.iadd, 1) := by decide +kernel
theorem d_Grid_set_17 : decode prog_7_method_7_code 17 = .ok (.istore 4, 2) := by decide +kernel
theorem d_Grid_set_19 : decode prog_7_method_7_code 19 = .ok (.lconst 1, 1) := by decide +kernel
theorem d_Grid_set_20 : decode prog_7_method_7_code 20 = .ok (.iload_n 1, 1) := by decide +kernel
theorem d_Grid_set_21 : decode prog_7_method_7_code 21 = .ok (.bipush 63, 2) := by decide +kernel
theorem d_Grid_set_23 : decode prog_7_method_7_code 23 = .ok (.iand, 1) := by decide +kernel
theorem d_Grid_set_24 : decode prog_7_method_7_code 24 = .ok (.lshl, 1) := by decide +kernel
theorem d_Grid_set_25 : decode prog_7_method_7_code 25 = .ok (.lstore 5, 2) := by decide +kernel
theorem d_Grid_set_27 : decode prog_7_method_7_code 27 = .ok (.aload_n 0, 1) := by decide +kernel
theorem d_Grid_set_28 : decode prog_7_method_7_code 28 = .ok (.getfield 9, 3) := by decide +kernel
theorem d_Grid_set_31 : decode prog_7_method_7_code 31 = .ok (.iload 4, 2) := by decide +kernel
theorem d_Grid_set_33 : decode prog_7_method_7_code 33 = .ok (.iload_n 3, 1) := by decide +kernel
theorem d_Grid_set_34 : decode prog_7_method_7_code 34 = .ok (.ifCond .eq 16, 3) := by decide +kernel
theorem d_Grid_set_37 : decode prog_7_method_7_code 37 = .ok (.aload_n 0, 1) := by decide +kernel
theorem d_Grid_set_38 : decode prog_7_method_7_code 38 = .ok (.getfield 9, 3) := by decide +kernel
theorem d_Grid_set_41 : decode prog_7_method_7_code 41 = .ok (.iload 4, 2) := by decide +kernel
theorem d_Grid_set_43 : decode prog_7_method_7_code 43 = .ok (.laload, 1) := by decide +kernel
theorem d_Grid_set_44 : decode prog_7_method_7_code 44 = .ok (.lload 5, 2) := by decide +kernel
theorem d_Grid_set_46 : decode prog_7_method_7_code 46 = .ok (.lor, 1) := by decide +kernel
theorem d_Grid_set_47 : decode prog_7_method_7_code 47 = .ok (.goto 17, 3) := by decide +kernel
theorem d_Grid_set_50 : decode prog_7_method_7_code 50 = .ok (.aload_n 0, 1) := by decide +kernel
theorem d_Grid_set_51 : decode prog_7_method_7_code 51 = .ok (.getfield 9, 3) := by decide +kernel
theorem d_Grid_set_54 : decode prog_7_method_7_code 54 = .ok (.iload 4, 2) := by decide +kernel
theorem d_Grid_set_56 : decode prog_7_method_7_code 56 = .ok (.laload, 1) := by decide +kernel
theorem d_Grid_set_57 : decode prog_7_method_7_code 57 = .ok (.lload 5, 2) := by decide +kernel
theorem d_Grid_set_59 : decode prog_7_method_7_code 59 = .ok (.ldc2_w 42, 3) := by decide +kernel
theorem d_Grid_set_62 : decode prog_7_method_7_code 62 = .ok (.lxor, 1) := by decide +kernel
theorem d_Grid_set_63 : decode prog_7_method_7_code 63 = .ok (.land, 1) := by decide +kernel
theorem d_Grid_set_64 : decode prog_7_method_7_code 64 = .ok (.lastore, 1) := by decide +kernel
theorem d_Grid_set_65 : decode prog_7_method_7_code 65 = .ok (.return_, 1) := by decide +kernel
theorem d_Grid_copy_0 : decode prog_7_method_4_code 0 = .ok (.aload_n 1, 1) := by decide +kernel
theorem d_Grid_copy_1 : decode prog_7_method_4_code 1 = .ok (.getfield 9, 3) := by decide +kernel
theorem d_Grid_copy_4 : decode prog_7_method_4_code 4 = .ok (.iconst 0, 1) := by decide +kernel
theorem d_Grid_copy_5 : decode prog_7_method_4_code 5 = .ok (.aload_n 0, 1) := by decide +kernel
theorem d_Grid_copy_6 : decode prog_7_method_4_code 6 = .ok (.getfield 9, 3) := by decide +kernel
theorem d_Grid_copy_9 : decode prog_7_method_4_code 9 = .ok (.iconst 0, 1) := by decide +kernel
theorem d_Grid_copy_10 : decode prog_7_method_4_code 10 = .ok (.aload_n 0, 1) := by decide +kernel
theorem d_Grid_copy_11 : decode prog_7_method_4_code 11 = .ok (.getfield 9, 3) := by decide +kernel
theorem d_Grid_copy_14 : decode prog_7_method_4_code 14 = .ok (.arraylength, 1) := by decide +kernel
theorem d_Grid_copy_15 : decode prog_7_method_4_code 15 = .ok (.invokestatic 32, 3) := by decide +kernel
theorem d_Grid_copy_18 : decode prog_7_method_4_code 18 = .ok (.aload_n 0, 1) := by decide +kernel
theorem d_Grid_copy_19 : decode prog_7_method_4_code 19 = .ok (.aload_n 1, 1) := by decide +kernel
theorem d_Grid_copy_20 : decode prog_7_method_4_code 20 = .ok (.getfield 13, 3) := by decide +kernel
theorem d_Grid_copy_23 : decode prog_7_method_4_code 23 = .ok (.putfield 13, 3) := by decide +kernel
theorem d_Grid_copy_26 : decode prog_7_method_4_code 26 = .ok (.return_, 1) := by decide +kernel
theorem d_Grid_darkOnes_0 : decode prog_7_method_11_code 0 = .ok (.iconst 0, 1) := by decide +kernel
theorem d_Grid_darkOnes_1 : decode prog_7_method_11_code 1 = .ok (.istore_n 1, 1) := by decide +kernel
theorem d_Grid_darkOnes_2 : decode prog_7_method_11_code 2 = .ok (.iconst 0, 1) := by decide +kernel
theorem d_Grid_darkOnes_3 : decode prog_7_method_11_code 3 = .ok (.istore_n 2, 1) := by decide +kernel
theorem d_Grid_darkOnes_4 : decode prog_7_method_11_code 4 = .ok (.iload_n 2, 1) := by decide +kernel
theorem d_Grid_darkOnes_5 : decode prog_7_method_11_code 5 = .ok (.aload_n 0, 1) := by decide +kernel
theorem d_Grid_darkOnes_6 : decode prog_7_method_11_code 6 = .ok (.getfield 9, 3) := by decide +kernel
theorem d_Grid_darkOnes_9 : decode prog_7_method_11_code 9 = .ok (.arraylength, 1) := by decide +kernel
theorem d_Grid_darkOnes_10 : decode prog_7_method_11_code 10 = .ok (.if_icmp .ge 21, 3) := by decide +kernel
theorem d_Grid_darkOnes_13 : decode prog_7_method_11_code 13 = .ok (.iload_n 1, 1) := by decide +kernel
theorem d_Grid_darkOnes_14 : decode prog_7_method_11_code 14 = .ok (.aload_n 0, 1) := by decide +kernel
theorem d_Grid_darkOnes_15 : decode prog_7_method_11_code 15 = .ok (.getfield 9, 3) := by decide +kernel
theorem d_Grid_darkOnes_18 : decode prog_7_method_11_code 18 = .ok (.iload_n 2, 1) := by decide +kernel
theorem d_Grid_darkOnes_19 : decode prog_7_method_11_code 19 = .ok (.laload, 1) := by decide +kernel
theorem d_Grid_darkOnes_20 : decode prog_7_method_11_code 20 = .ok (.invokestatic 54, 3) := by decide +kernel
theorem d_Grid_darkOnes_23 : decode prog_7_method_11_code 23 = .ok (.iadd, 1) := by decide +kernel
theorem d_Grid_darkOnes_24 : decode prog_7_method_11_code 24 = .ok (.istore_n 1, 1) := by decide +kernel
theorem d_Grid_darkOnes_25 : decode prog_7_method_11_code 25 = .ok (.iinc 2 1, 3) := by decide +kernel
theorem d_Grid_darkOnes_28 : decode prog_7_method_11_code 28 = .ok (.goto (-24), 3) := by decide +kernel
theorem d_Grid_darkOnes_31 : decode prog_7_method_11_code 31 = .ok (.iload_n 1, 1) := by decide +kernel
theorem d_Grid_darkOnes_32 : decode prog_7_method_11_code 32 = .ok (.ireturn, 1) := by decide +kernel
abbrev y_JLong_bitCount : MethodName := ⟨"java/lang/Long", "bitCount", "(J)I"⟩
abbrev w_JLong_bitCount : List Cond := .code y_JLong_bitCount prog_19_method_50_code 2 (some .int) :: lw_g
theorem d_JLong_bitCount_0 : decode prog_19_method_50_code 0 = .ok (.lload_n 0, 1) := by decide +kernel
theorem d_JLong_bitCount_1 : decode prog_19_method_50_code 1 = .ok (.lload_n 0, 1) := by decide +kernel
theorem d_JLong_bitCount_2 : decode prog_19_method_50_code 2 = .ok (.iconst 1, 1) := by decide +kernel
theorem d_JLong_bitCount_3 : decode prog_19_method_50_code 3 = .ok (.lushr, 1) := by decide +kernel
theorem d_JLong_bitCount_4 : decode prog_19_method_50_code 4 = .ok (.ldc2_w 314, 3) := by decide +kernel
theorem d_JLong_bitCount_7 : decode prog_19_method_50_code 7 = .ok (.land, 1) := by decide +kernel
theorem d_JLong_bitCount_8 : decode prog_19_method_50_code 8 = .ok (.lsub, 1) := by decide +kernel
theorem d_JLong_bitCount_9 : decode prog_19_method_50_code 9 = .ok (.lstore_n 0, 1) := by decide +kernel
theorem d_JLong_bitCount_10 : decode prog_19_method_50_code 10 = .ok (.lload_n 0, 1) := by decide +kernel
theorem d_JLong_bitCount_11 : decode prog_19_method_50_code 11 = .ok (.ldc2_w 316, 3) := by decide +kernel
theorem d_JLong_bitCount_14 : decode prog_19_method_50_code 14 = .ok (.land, 1) := by decide +kernel
theorem d_JLong_bitCount_15 : decode prog_19_method_50_code 15 = .ok (.lload_n 0, 1) := by decide +kernel
theorem d_JLong_bitCount_16 : decode prog_19_method_50_code 16 = .ok (.iconst 2, 1) := by decide +kernel
theorem d_JLong_bitCount_17 : decode prog_19_method_50_code 17 = .ok (.lushr, 1) := by decide +kernel
theorem d_JLong_bitCount_18 : decode prog_19_method_50_code 18 = .ok (.ldc2_w 316, 3) := by decide +kernel
theorem d_JLong_bitCount_21 : decode prog_19_method_50_code 21 = .ok (.land, 1) := by decide +kernel
theorem d_JLong_bitCount_22 : decode prog_19_method_50_code 22 = .ok (.ladd, 1) := by decide +kernel
theorem d_JLong_bitCount_23 : decode prog_19_method_50_code 23 = .ok (.lstore_n 0, 1) := by decide +kernel
theorem d_JLong_bitCount_24 : decode prog_19_method_50_code 24 = .ok (.lload_n 0, 1) := by decide +kernel
theorem d_JLong_bitCount_25 : decode prog_19_method_50_code 25 = .ok (.lload_n 0, 1) := by decide +kernel
theorem d_JLong_bitCount_26 : decode prog_19_method_50_code 26 = .ok (.iconst 4, 1) := by decide +kernel
theorem d_JLong_bitCount_27 : decode prog_19_method_50_code 27 = .ok (.lushr, 1) := by decide +kernel
theorem d_JLong_bitCount_28 : decode prog_19_method_50_code 28 = .ok (.ladd, 1) := by decide +kernel
theorem d_JLong_bitCount_29 : decode prog_19_method_50_code 29 = .ok (.ldc2_w 318, 3) := by decide +kernel
theorem d_JLong_bitCount_32 : decode prog_19_method_50_code 32 = .ok (.land, 1) := by decide +kernel
theorem d_JLong_bitCount_33 : decode prog_19_method_50_code 33 = .ok (.lstore_n 0, 1) := by decide +kernel
theorem d_JLong_bitCount_34 : decode prog_19_method_50_code 34 = .ok (.lload_n 0, 1) := by decide +kernel
theorem d_JLong_bitCount_35 : decode prog_19_method_50_code 35 = .ok (.lload_n 0, 1) := by decide +kernel
theorem d_JLong_bitCount_36 : decode prog_19_method_50_code 36 = .ok (.bipush 8, 2) := by decide +kernel
theorem d_JLong_bitCount_38 : decode prog_19_method_50_code 38 = .ok (.lushr, 1) := by decide +kernel
theorem d_JLong_bitCount_39 : decode prog_19_method_50_code 39 = .ok (.ladd, 1) := by decide +kernel
theorem d_JLong_bitCount_40 : decode prog_19_method_50_code 40 = .ok (.lstore_n 0, 1) := by decide +kernel
theorem d_JLong_bitCount_41 : decode prog_19_method_50_code 41 = .ok (.lload_n 0, 1) := by decide +kernel
theorem d_JLong_bitCount_42 : decode prog_19_method_50_code 42 = .ok (.lload_n 0, 1) := by decide +kernel
theorem d_JLong_bitCount_43 : decode prog_19_method_50_code 43 = .ok (.bipush 16, 2) := by decide +kernel
theorem d_JLong_bitCount_45 : decode prog_19_method_50_code 45 = .ok (.lushr, 1) := by decide +kernel
theorem d_JLong_bitCount_46 : decode prog_19_method_50_code 46 = .ok (.ladd, 1) := by decide +kernel
theorem d_JLong_bitCount_47 : decode prog_19_method_50_code 47 = .ok (.lstore_n 0, 1) := by decide +kernel
theorem d_JLong_bitCount_48 : decode prog_19_method_50_code 48 = .ok (.lload_n 0, 1) := by decide +kernel
theorem d_JLong_bitCount_49 : decode prog_19_method_50_code 49 = .ok (.lload_n 0, 1) := by decide +kernel
theorem d_JLong_bitCount_50 : decode prog_19_method_50_code 50 = .ok (.bipush 32, 2) := by decide +kernel
theorem d_JLong_bitCount_52 : decode prog_19_method_50_code 52 = .ok (.lushr, 1) := by decide +kernel
theorem d_JLong_bitCount_53 : decode prog_19_method_50_code 53 = .ok (.ladd, 1) := by decide +kernel
theorem d_JLong_bitCount_54 : decode prog_19_method_50_code 54 = .ok (.lstore_n 0, 1) := by decide +kernel
theorem d_JLong_bitCount_55 : decode prog_19_method_50_code 55 = .ok (.lload_n 0, 1) := by decide +kernel
theorem d_JLong_bitCount_56 : decode prog_19_method_50_code 56 = .ok (.l2i, 1) := by decide +kernel
theorem d_JLong_bitCount_57 : decode prog_19_method_50_code 57 = .ok (.bipush 127, 2) := by decide +kernel
theorem d_JLong_bitCount_59 : decode prog_19_method_50_code 59 = .ok (.iand, 1) := by decide +kernel
theorem d_JLong_bitCount_60 : decode prog_19_method_50_code 60 = .ok (.ireturn, 1) := by decide +kernel
abbrev y_JInt_bitCount : MethodName := ⟨"java/lang/Integer", "bitCount", "(I)I"⟩
abbrev w_JInt_bitCount : List Cond := .code y_JInt_bitCount prog_18_method_49_code 1 (some .int) :: lw_g
theorem d_JInt_bitCount_0 : decode prog_18_method_49_code 0 = .ok (.iload_n 0, 1) := by decide +kernel
theorem d_JInt_bitCount_1 : decode prog_18_method_49_code 1 = .ok (.iload_n 0, 1) := by decide +kernel
theorem d_JInt_bitCount_2 : decode prog_18_method_49_code 2 = .ok (.iconst 1, 1) := by decide +kernel
theorem d_JInt_bitCount_3 : decode prog_18_method_49_code 3 = .ok (.iushr, 1) := by decide +kernel
theorem d_JInt_bitCount_4 : decode prog_18_method_49_code 4 = .ok (.ldc_w 265, 3) := by decide +kernel
theorem d_JInt_bitCount_7 : decode prog_18_method_49_code 7 = .ok (.iand, 1) := by decide +kernel
theorem d_JInt_bitCount_8 : decode prog_18_method_49_code 8 = .ok (.isub, 1) := by decide +kernel
theorem d_JInt_bitCount_9 : decode prog_18_method_49_code 9 = .ok (.istore_n 0, 1) := by decide +kernel
theorem d_JInt_bitCount_10 : decode prog_18_method_49_code 10 = .ok (.iload_n 0, 1) := by decide +kernel
theorem d_JInt_bitCount_11 : decode prog_18_method_49_code 11 = .ok (.ldc_w 266, 3) := by decide +kernel
theorem d_JInt_bitCount_14 : decode prog_18_method_49_code 14 = .ok (.iand, 1) := by decide +kernel
theorem d_JInt_bitCount_15 : decode prog_18_method_49_code 15 = .ok (.iload_n 0, 1) := by decide +kernel
theorem d_JInt_bitCount_16 : decode prog_18_method_49_code 16 = .ok (.iconst 2, 1) := by decide +kernel
theorem d_JInt_bitCount_17 : decode prog_18_method_49_code 17 = .ok (.iushr, 1) := by decide +kernel
theorem d_JInt_bitCount_18 : decode prog_18_method_49_code 18 = .ok (.ldc_w 266, 3) := by decide +kernel
theorem d_JInt_bitCount_21 : decode prog_18_method_49_code 21 = .ok (.iand, 1) := by decide +kernel
theorem d_JInt_bitCount_22 : decode prog_18_method_49_code 22 = .ok (.iadd, 1) := by decide +kernel
theorem d_JInt_bitCount_23 : decode prog_18_method_49_code 23 = .ok (.istore_n 0, 1) := by decide +kernel
theorem d_JInt_bitCount_24 : decode prog_18_method_49_code 24 = .ok (.iload_n 0, 1) := by decide +kernel
theorem d_JInt_bitCount_25 : decode prog_18_method_49_code 25 = .ok (.iload_n 0, 1) := by decide +kernel
theorem d_JInt_bitCount_26 : decode prog_18_method_49_code 26 = .ok (.iconst 4, 1) := by decide +kernel
theorem d_JInt_bitCount_27 : decode prog_18_method_49_code 27 = .ok (.iushr, 1) := by decide +kernel
theorem d_JInt_bitCount_28 : decode prog_18_method_49_code 28 = .ok (.iadd, 1) := by decide +kernel
theorem d_JInt_bitCount_29 : decode prog_18_method_49_code 29 = .ok (.ldc_w 267, 3) := by decide +kernel
theorem d_JInt_bitCount_32 : decode prog_18_method_49_code 32 = .ok (.iand, 1) := by decide +kernel
theorem d_JInt_bitCount_33 : decode prog_18_method_49_code 33 = .ok (.istore_n 0, 1) := by decide +kernel
theorem d_JInt_bitCount_34 : decode prog_18_method_49_code 34 = .ok (.iload_n 0, 1) := by decide +kernel
theorem d_JInt_bitCount_35 : decode prog_18_method_49_code 35 = .ok (.iload_n 0, 1) := by decide +kernel
theorem d_JInt_bitCount_36 : decode prog_18_method_49_code 36 = .ok (.bipush 8, 2) := by decide +kernel
theorem d_JInt_bitCount_38 : decode prog_18_method_49_code 38 = .ok (.iushr, 1) := by decide +kernel
theorem d_JInt_bitCount_39 : decode prog_18_method_49_code 39 = .ok (.iadd, 1) := by decide +kernel
theorem d_JInt_bitCount_40 : decode prog_18_method_49_code 40 = .ok (.istore_n 0, 1) := by decide +kernel
theorem d_JInt_bitCount_41 : decode prog_18_method_49_code 41 = .ok (.iload_n 0, 1) := by decide +kernel
theorem d_JInt_bitCount_42 : decode prog_18_method_49_code 42 = .ok (.iload_n 0, 1) := by decide +kernel
theorem d_JInt_bitCount_43 : decode prog_18_method_49_code 43 = .ok (.bipush 16, 2) := by decide +kernel
theorem d_JInt_bitCount_45 : decode prog_18_method_49_code 45 = .ok (.iushr, 1) := by decide +kernel
theorem d_JInt_bitCount_46 : decode prog_18_method_49_code 46 = .ok (.iadd, 1) := by decide +kernel
theorem d_JInt_bitCount_47 : decode prog_18_method_49_code 47 = .ok (.istore_n 0, 1) := by decide +kernel
theorem d_JInt_bitCount_48 : decode prog_18_method_49_code 48 = .ok (.iload_n 0, 1) := by decide +kernel
theorem d_JInt_bitCount_49 : decode prog_18_method_49_code 49 = .ok (.bipush 63, 2) := by decide +kernel
theorem d_JInt_bitCount_51 : decode prog_18_method_49_code 51 = .ok (.iand, 1) := by decide +kernel
theorem d_JInt_bitCount_52 : decode prog_18_method_49_code 52 = .ok (.ireturn, 1) := by decide +kernel
abbrev y_JArrays_fill0 : MethodName := ⟨"java/util/Arrays", "fill", "([JJ)V"⟩
abbrev w_JArrays_fill0 : List Cond := .code y_JArrays_fill0 prog_27_method_101_code 5 none :: lw_g
abbrev y_JArrays_fill1 : MethodName := ⟨"java/util/Arrays", "fill", "([II)V"⟩
abbrev w_JArrays_fill1 : List Cond := .code y_JArrays_fill1 prog_27_method_103_code 4 none :: lw_g
theorem d_JArrays_fill0_0 : decode prog_27_method_101_code 0 = .ok (.iconst 0, 1) := by decide +kernel
theorem d_JArrays_fill0_1 : decode prog_27_method_101_code 1 = .ok (.istore_n 3, 1) := by decide +kernel
theorem d_JArrays_fill0_2 : decode prog_27_method_101_code 2 = .ok (.aload_n 0, 1) := by decide +kernel
theorem d_JArrays_fill0_3 : decode prog_27_method_101_code 3 = .ok (.arraylength, 1) := by decide +kernel
theorem d_JArrays_fill0_4 : decode prog_27_method_101_code 4 = .ok (.istore 4, 2) := by decide +kernel
theorem d_JArrays_fill0_6 : decode prog_27_method_101_code 6 = .ok (.iload_n 3, 1) := by decide +kernel
theorem d_JArrays_fill0_7 : decode prog_27_method_101_code 7 = .ok (.iload 4, 2) := by decide +kernel
theorem d_JArrays_fill0_9 : decode prog_27_method_101_code 9 = .ok (.if_icmp .ge 13, 3) := by decide +kernel
theorem d_JArrays_fill0_12 : decode prog_27_method_101_code 12 = .ok (.aload_n 0, 1) := by decide +kernel
theorem d_JArrays_fill0_13 : decode prog_27_method_101_code 13 = .ok (.iload_n 3, 1) := by decide +kernel
theorem d_JArrays_fill0_14 : decode prog_27_method_101_code 14 = .ok (.lload_n 1, 1) := by decide +kernel
theorem d_JArrays_fill0_15 : decode prog_27_method_101_code 15 = .ok (.lastore, 1) := by decide +kernel
theorem d_JArrays_fill0_16 : decode prog_27_method_101_code 16 = .ok (.iinc 3 1, 3) := by decide +kernel
theorem d_JArrays_fill0_19 : decode prog_27_method_101_code 19 = .ok (.goto (-13), 3) := by decide +kernel
theorem d_JArrays_fill0_22 : decode prog_27_method_101_code 22 = .ok (.return_, 1) := by decide +kernel
theorem d_JArrays_fill1_0 : decode prog_27_method_103_code 0 = .ok (.iconst 0, 1) := by decide +kernel
theorem d_JArrays_fill1_1 : decode prog_27_method_103_code 1 = .ok (.istore_n 2, 1) := by decide +kernel
theorem d_JArrays_fill1_2 : decode prog_27_method_103_code 2 = .ok (.aload_n 0, 1) := by decide +kernel
theorem d_JArrays_fill1_3 : decode prog_27_method_103_code 3 = .ok (.arraylength, 1) := by decide +kernel
theorem d_JArrays_fill1_4 : decode prog_27_method_103_code 4 = .ok (.istore_n 3, 1) := by decide +kernel
theorem d_JArrays_fill1_5 : decode prog_27_method_103_code 5 = .ok (.iload_n 2, 1) := by decide +kernel
theorem d_JArrays_fill1_6 : decode prog_27_method_103_code 6 = .ok (.iload_n 3, 1) := by decide +kernel
theorem d_JArrays_fill1_7 : decode prog_27_method_103_code 7 = .ok (.if_icmp .ge 13, 3) := by decide +kernel
theorem d_JArrays_fill1_10 : decode prog_27_method_103_code 10 = .ok (.aload_n 0, 1) := by decide +kernel
theorem d_JArrays_fill1_11 : decode prog_27_method_103_code 11 = .ok (.iload_n 2, 1) := by decide +kernel
theorem d_JArrays_fill1_12 : decode prog_27_method_103_code 12 = .ok (.iload_n 1, 1) := by decide +kernel
theorem d_JArrays_fill1_13 : decode prog_27_method_103_code 13 = .ok (.iastore, 1) := by decide +kernel
theorem d_JArrays_fill1_14 : decode prog_27_method_103_code 14 = .ok (.iinc 2 1, 3) := by decide +kernel
theorem d_JArrays_fill1_17 : decode prog_27_method_103_code 17 = .ok (.goto (-12), 3) := by decide +kernel
theorem d_JArrays_fill1_20 : decode prog_27_method_103_code 20 = .ok (.return_, 1) := by decide +kernel
abbrev y_Sq_init : MethodName := ⟨"SquareSymbols", "<init>", "()V"⟩
abbrev w_Sq_init : List Cond := .code y_Sq_init prog_1_method_1_code 2 none :: lw_g
abbrev y_Sq_wipe : MethodName := ⟨"SquareSymbols", "wipe", "()I"⟩
abbrev w_Sq_wipe : List Cond := .code y_Sq_wipe prog_1_method_4_code 2 (some .int) :: lw_g
abbrev y_Sq_at : MethodName := ⟨"SquareSymbols", "at", "(I)I"⟩
abbrev w_Sq_at : List Cond := .code y_Sq_at prog_1_method_5_code 2 (some .int) :: lw_g
abbrev y_Sq_row : MethodName := ⟨"SquareSymbols", "row", "(II)J"⟩
abbrev w_Sq_row : List Cond := .code y_Sq_row prog_1_method_10_code 3 (some .long) :: lw_g
abbrev y_Sq_spoil : MethodName := ⟨"SquareSymbols", "spoil", "(IIJ)I"⟩
abbrev w_Sq_spoil : List Cond := .code y_Sq_spoil prog_1_method_11_code 5 (some .int) :: lw_g
abbrev y_Sq_lowBits : MethodName := ⟨"SquareSymbols", "lowBits", "(I)J"⟩
abbrev w_Sq_lowBits : List Cond := .code y_Sq_lowBits prog_1_method_21_code 1 (some .long) :: lw_g
abbrev y_Sq_read : MethodName := ⟨"SquareSymbols", "read", "()I"⟩
abbrev w_Sq_read : List Cond := .code y_Sq_read prog_1_method_12_code 1 (some .int) :: lw_g
abbrev y_Sq_readSymbol : MethodName := ⟨"SquareSymbols", "readSymbol", "(I)I"⟩
abbrev w_Sq_readSymbol : List Cond := .code y_Sq_readSymbol prog_1_method_19_code 7 (some .int) :: lw_g
abbrev y_Sq_item : MethodName := ⟨"SquareSymbols", "item", "([II)I"⟩
abbrev w_Sq_item : List Cond := .code y_Sq_item prog_1_method_20_code 2 (some .int) :: lw_g
abbrev y_Sq_fault : MethodName := ⟨"SquareSymbols", "fault", "()I"⟩
abbrev w_Sq_fault : List Cond := .code y_Sq_fault prog_1_method_13_code 1 (some .int) :: lw_g
abbrev y_Sq_put : MethodName := ⟨"SquareSymbols", "put", "(IJ)I"⟩
abbrev w_Sq_put : List Cond := .code y_Sq_put prog_1_method_2_code 5 (some .int) :: lw_g
abbrev y_Sq_repeat : MethodName := ⟨"SquareSymbols", "repeat", "(II)I"⟩
abbrev w_Sq_repeat : List Cond := .code y_Sq_repeat prog_1_method_3_code 4 (some .int) :: lw_g
abbrev y_Sq_make : MethodName := ⟨"SquareSymbols", "make", "(III)I"⟩
abbrev w_Sq_make : List Cond := .code y_Sq_make prog_1_method_6_code 5 (some .int) :: lw_g
abbrev y_Sq_fittingVersion : MethodName := ⟨"SquareSymbols", "fittingVersion", "(II)I"⟩
abbrev w_Sq_fittingVersion : List Cond := .code y_Sq_fittingVersion prog_1_method_15_code 8 (some .int) :: lw_g
abbrev y_Sq_writeCodewords : MethodName := ⟨"SquareSymbols", "writeCodewords", "(II)V"⟩
abbrev w_Sq_writeCodewords : List Cond := .code y_Sq_writeCodewords prog_1_method_16_code 5 none :: lw_g
abbrev y_Sq_dressBest : MethodName := ⟨"SquareSymbols", "dressBest", "(II)V"⟩
abbrev w_Sq_dressBest : List Cond := .code y_Sq_dressBest prog_1_method_17_code 7 none :: lw_g
abbrev y_Sq_dress : MethodName := ⟨"SquareSymbols", "dress", "(II)V"⟩
abbrev w_Sq_dress : List Cond := .code y_Sq_dress prog_1_method_18_code 3 none :: lw_g
abbrev y_Sq_blank : MethodName := ⟨"SquareSymbols", "blank", "(I)I"⟩
abbrev w_Sq_blank : List Cond := .code y_Sq_blank prog_1_method_7_code 2 (some .int) :: lw_g
abbrev y_Sq_told : MethodName := ⟨"SquareSymbols", "told", "(I)I"⟩
abbrev w_Sq_told : List Cond := .code y_Sq_told prog_1_method_8_code 2 (some .int) :: lw_g
abbrev y_Sq_segment : MethodName := ⟨"SquareSymbols", "segment", "(II)I"⟩
abbrev w_Sq_segment : List Cond := .code y_Sq_segment prog_1_method_9_code 4 (some .int) :: lw_g
abbrev y_Sq_reading : MethodName := ⟨"SquareSymbols", "reading", "(I)I"⟩
abbrev w_Sq_reading : List Cond := .code y_Sq_reading prog_1_method_14_code 2 (some .int) :: lw_g
theorem d_Sq_init_0 : decode prog_1_method_1_code 0 = .ok (.aload_n 0, 1) := by decide +kernel
theorem d_Sq_init_1 : decode prog_1_method_1_code 1 = .ok (.invokespecial 1, 3) := by decide +kernel
theorem d_Sq_init_4 : decode prog_1_method_1_code 4 = .ok (.new 7, 3) := by decide +kernel
theorem d_Sq_init_7 : decode prog_1_method_1_code 7 = .ok (.dup, 1) := by decide +kernel
theorem d_Sq_init_8 : decode prog_1_method_1_code 8 = .ok (.invokespecial 9, 3) := by decide +kernel
theorem d_Sq_init_11 : decode prog_1_method_1_code 11 = .ok (.astore_n 1, 1) := by decide +kernel
theorem d_Sq_init_12 : decode prog_1_method_1_code 12 = .ok (.aload_n 0, 1) := by decide +kernel
theorem d_Sq_init_13 : decode prog_1_method_1_code 13 = .ok (.new 10, 3) := by decide +kernel
theorem d_Sq_init_16 : decode prog_1_method_1_code 16 = .ok (.dup, 1) := by decide +kernel
theorem d_Sq_init_17 : decode prog_1_method_1_code 17 = .ok (.invokespecial 12, 3) := by decide +kernel
theorem d_Sq_init_20 : decode prog_1_method_1_code 20 = .ok (.putfield 13, 3) := by decide +kernel
theorem d_Sq_init_23 : decode prog_1_method_1_code 23 = .ok (.aload_n 0, 1) := by decide +kernel
theorem d_Sq_init_24 : decode prog_1_method_1_code 24 = .ok (.new 19, 3) := by decide +kernel
theorem d_Sq_init_27 : decode prog_1_method_1_code 27 = .ok (.dup, 1) := by decide +kernel
theorem d_Sq_init_28 : decode prog_1_method_1_code 28 = .ok (.invokespecial 21, 3) := by decide +kernel
theorem d_Sq_init_31 : decode prog_1_method_1_code 31 = .ok (.putfield 22, 3) := by decide +kernel
theorem d_Sq_init_34 : decode prog_1_method_1_code 34 = .ok (.aload_n 0, 1) := by decide +kernel
theorem d_Sq_init_35 : decode prog_1_method_1_code 35 = .ok (.new 26, 3) := by decide +kernel
theorem d_Sq_init_38 : decode prog_1_method_1_code 38 = .ok (.dup, 1) := by decide +kernel
theorem d_Sq_init_39 : decode prog_1_method_1_code 39 = .ok (.aload_n 1, 1) := by decide +kernel
theorem d_Sq_init_40 : decode prog_1_method_1_code 40 = .ok (.invokespecial 28, 3) := by decide +kernel
theorem d_Sq_init_43 : decode prog_1_method_1_code 43 = .ok (.putfield 31, 3) := by decide +kernel
theorem d_Sq_init_46 : decode prog_1_method_1_code 46 = .ok (.aload_n 0, 1) := by decide +kernel
theorem d_Sq_init_47 : decode prog_1_method_1_code 47 = .ok (.new 35, 3) := by decide +kernel
theorem d_Sq_init_50 : decode prog_1_method_1_code 50 = .ok (.dup, 1) := by decide +kernel
theorem d_Sq_init_51 : decode prog_1_method_1_code 51 = .ok (.aload_n 1, 1) := by decide +kernel
theorem d_Sq_init_52 : decode prog_1_method_1_code 52 = .ok (.invokespecial 37, 3) := by decide +kernel
theorem d_Sq_init_55 : decode prog_1_method_1_code 55 = .ok (.putfield 38, 3) := by decide +kernel
theorem d_Sq_init_58 : decode prog_1_method_1_code 58 = .ok (.aload_n 0, 1) := by decide +kernel
theorem d_Sq_init_59 : decode prog_1_method_1_code 59 = .ok (.new 42, 3) := by decide +kernel
theorem d_Sq_init_62 : decode prog_1_method_1_code 62 = .ok (.dup, 1) := by decide +kernel
theorem d_Sq_init_63 : decode prog_1_method_1_code 63 = .ok (.aload_n 0, 1) := by decide +kernel
theorem d_Sq_init_64 : decode prog_1_method_1_code 64 = .ok (.getfield 31, 3) := by decide +kernel
theorem d_Sq_init_67 : decode prog_1_method_1_code 67 = .ok (.invokespecial 44, 3) := by decide +kernel
theorem d_Sq_init_70 : decode prog_1_method_1_code 70 = .ok (.putfield 47, 3) := by decide +kernel
theorem d_Sq_init_73 : decode prog_1_method_1_code 73 = .ok (.aload_n 0, 1) := by decide +kernel
theorem d_Sq_init_74 : decode prog_1_method_1_code 74 = .ok (.new 51, 3) := by decide +kernel
theorem d_Sq_init_77 : decode prog_1_method_1_code 77 = .ok (.dup, 1) := by decide +kernel
theorem d_Sq_init_78 : decode prog_1_method_1_code 78 = .ok (.invokespecial 53, 3) := by decide +kernel
theorem d_Sq_init_81 : decode prog_1_method_1_code 81 = .ok (.putfield 54, 3) := by decide +kernel
theorem d_Sq_init_84 : decode prog_1_method_1_code 84 = .ok (.aload_n 0, 1) := by decide +kernel
theorem d_Sq_init_85 : decode prog_1_method_1_code 85 = .ok (.new 58, 3) := by decide +kernel
theorem d_Sq_init_88 : decode prog_1_method_1_code 88 = .ok (.dup, 1) := by decide +kernel
theorem d_Sq_init_89 : decode prog_1_method_1_code 89 = .ok (.invokespecial 60, 3) := by decide +kernel
theorem d_Sq_init_92 : decode prog_1_method_1_code 92 = .ok (.putfield 61, 3) := by decide +kernel
theorem d_Sq_init_95 : decode prog_1_method_1_code 95 = .ok (.aload_n 0, 1) := by decide +kernel
theorem d_Sq_init_96 : decode prog_1_method_1_code 96 = .ok (.new 65, 3) := by decide +kernel
theorem d_Sq_init_99 : decode prog_1_method_1_code 99 = .ok (.dup, 1) := by decide +kernel
theorem d_Sq_init_100 : decode prog_1_method_1_code 100 = .ok (.invokespecial 67, 3) := by decide +kernel
theorem d_Sq_init_103 : decode prog_1_method_1_code 103 = .ok (.putfield 68, 3) := by decide +kernel
theorem d_Sq_init_106 : decode prog_1_method_1_code 106 = .ok (.aload_n 0, 1) := by decide +kernel
theorem d_Sq_init_107 : decode prog_1_method_1_code 107 = .ok (.bipush 6, 2) := by decide +kernel
theorem d_Sq_init_109 : decode prog_1_method_1_code 109 = .ok (.newarray .int, 2) := by decide +kernel
theorem d_Sq_init_111 : decode prog_1_method_1_code 111 = .ok (.putfield 72, 3) := by decide +kernel
theorem d_Sq_init_114 : decode prog_1_method_1_code 114 = .ok (.aload_n 0, 1) := by decide +kernel
theorem d_Sq_init_115 : decode prog_1_method_1_code 115 = .ok (.sipush 1074, 3) := by decide +kernel
theorem d_Sq_init_118 : decode prog_1_method_1_code 118 = .ok (.newarray .int, 2) := by decide +kernel
theorem d_Sq_init_120 : decode prog_1_method_1_code 120 = .ok (.putfield 76, 3) := by decide +kernel
theorem d_Sq_init_123 : decode prog_1_method_1_code 123 = .ok (.aload_n 0, 1) := by decide +kernel
theorem d_Sq_init_124 : decode prog_1_method_1_code 124 = .ok (.iconst 4, 1) := by decide +kernel
theorem d_Sq_init_125 : decode prog_1_method_1_code 125 = .ok (.newarray .int, 2) := by decide +kernel
theorem d_Sq_init_127 : decode prog_1_method_1_code 127 = .ok (.putfield 79, 3) := by decide +kernel
theorem d_Sq_init_130 : decode prog_1_method_1_code 130 = .ok (.return_, 1) := by decide +kernel
theorem d_Sq_wipe_0 : decode prog_1_method_4_code 0 = .ok (.aload_n 0, 1) := by decide +kernel
theorem d_Sq_wipe_1 : decode prog_1_method_4_code 1 = .ok (.getfield 13, 3) := by decide +kernel
theorem d_Sq_wipe_4 : decode prog_1_method_4_code 4 = .ok (.invokevirtual 97, 3) := by decide +kernel
theorem d_Sq_wipe_7 : decode prog_1_method_4_code 7 = .ok (.istore_n 1, 1) := by decide +kernel
theorem d_Sq_wipe_8 : decode prog_1_method_4_code 8 = .ok (.aload_n 0, 1) := by decide +kernel
theorem d_Sq_wipe_9 : decode prog_1_method_4_code 9 = .ok (.getfield 13, 3) := by decide +kernel
theorem d_Sq_wipe_12 : decode prog_1_method_4_code 12 = .ok (.invokevirtual 105, 3) := by decide +kernel
theorem d_Sq_wipe_15 : decode prog_1_method_4_code 15 = .ok (.iload_n 1, 1) := by decide +kernel
theorem d_Sq_wipe_16 : decode prog_1_method_4_code 16 = .ok (.ireturn, 1) := by decide +kernel
theorem d_Sq_at_0 : decode prog_1_method_5_code 0 = .ok (.aload_n 0, 1) := by decide +kernel
theorem d_Sq_at_1 : decode prog_1_method_5_code 1 = .ok (.getfield 13, 3) := by decide +kernel
theorem d_Sq_at_4 : decode prog_1_method_5_code 4 = .ok (.iload_n 1, 1) := by decide +kernel
theorem d_Sq_at_5 : decode prog_1_method_5_code 5 = .ok (.invokevirtual 108, 3) := by decide +kernel
theorem d_Sq_at_8 : decode prog_1_method_5_code 8 = .ok (.ireturn, 1) := by decide +kernel
theorem d_Sq_row_0 : decode prog_1_method_10_code 0 = .ok (.aload_n 0, 1) := by decide +kernel
theorem d_Sq_row_1 : decode prog_1_method_10_code 1 = .ok (.getfield 54, 3) := by decide +kernel
theorem d_Sq_row_4 : decode prog_1_method_10_code 4 = .ok (.iload_n 1, 1) := by decide +kernel
theorem d_Sq_row_5 : decode prog_1_method_10_code 5 = .ok (.iload_n 2, 1) := by decide +kernel
theorem d_Sq_row_6 : decode prog_1_method_10_code 6 = .ok (.invokevirtual 169, 3) := by decide +kernel
theorem d_Sq_row_9 : decode prog_1_method_10_code 9 = .ok (.lreturn, 1) := by decide +kernel
theorem d_Sq_spoil_0 : decode prog_1_method_11_code 0 = .ok (.aload_n 0, 1) := by decide +kernel
theorem d_Sq_spoil_1 : decode prog_1_method_11_code 1 = .ok (.getfield 54, 3) := by decide +kernel
theorem d_Sq_spoil_4 : decode prog_1_method_11_code 4 = .ok (.iload_n 1, 1) := by decide +kernel
theorem d_Sq_spoil_5 : decode prog_1_method_11_code 5 = .ok (.iload_n 2, 1) := by decide +kernel
theorem d_Sq_spoil_6 : decode prog_1_method_11_code 6 = .ok (.lload_n 3, 1) := by decide +kernel
theorem d_Sq_spoil_7 : decode prog_1_method_11_code 7 = .ok (.invokevirtual 173, 3) := by decide +kernel
theorem d_Sq_spoil_10 : decode prog_1_method_11_code 10 = .ok (.ireturn, 1) := by decide +kernel
theorem d_Sq_lowBits_0 : decode prog_1_method_21_code 0 = .ok (.iload_n 0, 1) := by decide +kernel
theorem d_Sq_lowBits_1 : decode prog_1_method_21_code 1 = .ok (.ifCond .gt 7, 3) := by decide +kernel
theorem d_Sq_lowBits_4 : decode prog_1_method_21_code 4 = .ok (.lconst 0, 1) := by decide +kernel
theorem d_Sq_lowBits_5 : decode prog_1_method_21_code 5 = .ok (.goto 20, 3) := by decide +kernel
theorem d_Sq_lowBits_8 : decode prog_1_method_21_code 8 = .ok (.iload_n 0, 1) := by decide +kernel
theorem d_Sq_lowBits_9 : decode prog_1_method_21_code 9 = .ok (.bipush 64, 2) := by decide +kernel
theorem d_Sq_lowBits_11 : decode prog_1_method_21_code 11 = .ok (.if_icmp .lt 9, 3) := by decide +kernel
theorem d_Sq_lowBits_14 : decode prog_1_method_21_code 14 = .ok (.ldc2_w 273, 3) := by decide +kernel
theorem d_Sq_lowBits_17 : decode prog_1_method_21_code 17 = .ok (.goto 8, 3) := by decide +kernel
theorem d_Sq_lowBits_20 : decode prog_1_method_21_code 20 = .ok (.lconst 1, 1) := by decide +kernel
theorem d_Sq_lowBits_21 : decode prog_1_method_21_code 21 = .ok (.iload_n 0, 1) := by decide +kernel
theorem d_Sq_lowBits_22 : decode prog_1_method_21_code 22 = .ok (.lshl, 1) := by decide +kernel
theorem d_Sq_lowBits_23 : decode prog_1_method_21_code 23 = .ok (.lconst 1, 1) := by decide +kernel
theorem d_Sq_lowBits_24 : decode prog_1_method_21_code 24 = .ok (.lsub, 1) := by decide +kernel
theorem d_Sq_lowBits_25 : decode prog_1_method_21_code 25 = .ok (.lreturn, 1) := by decide +kernel
theorem d_Sq_read_0 : decode prog_1_method_12_code 0 = .ok (.aload_n 0, 1) := by decide +kernel
theorem d_Sq_read_1 : decode prog_1_method_12_code 1 = .ok (.iconst 0, 1) := by decide +kernel
theorem d_Sq_read_2 : decode prog_1_method_12_code 2 = .ok (.putfield 177, 3) := by decide +kernel
theorem d_Sq_read_5 : decode prog_1_method_12_code 5 = .ok (.aload_n 0, 1) := by decide +kernel
theorem d_Sq_read_6 : decode prog_1_method_12_code 6 = .ok (.iconst 0, 1) := by decide +kernel
theorem d_Sq_read_7 : decode prog_1_method_12_code 7 = .ok (.putfield 180, 3) := by decide +kernel
theorem d_Sq_read_10 : decode prog_1_method_12_code 10 = .ok (.aload_n 0, 1) := by decide +kernel
theorem d_Sq_read_11 : decode prog_1_method_12_code 11 = .ok (.getfield 54, 3) := by decide +kernel
theorem d_Sq_read_14 : decode prog_1_method_12_code 14 = .ok (.invokevirtual 159, 3) := by decide +kernel
theorem d_Sq_read_17 : decode prog_1_method_12_code 17 = .ok (.ifCond .ne 5, 3) := by decide +kernel
theorem d_Sq_read_20 : decode prog_1_method_12_code 20 = .ok (.iconst (-1), 1) := by decide +kernel
theorem d_Sq_read_21 : decode prog_1_method_12_code 21 = .ok (.ireturn, 1) := by decide +kernel
theorem d_Sq_read_22 : decode prog_1_method_12_code 22 = .ok (.aload_n 0, 1) := by decide +kernel
theorem d_Sq_read_23 : decode prog_1_method_12_code 23 = .ok (.aload_n 0, 1) := by decide +kernel
theorem d_Sq_read_24 : decode prog_1_method_12_code 24 = .ok (.aload_n 0, 1) := by decide +kernel
theorem d_Sq_read_25 : decode prog_1_method_12_code 25 = .ok (.getfield 54, 3) := by decide +kernel
theorem d_Sq_read_28 : decode prog_1_method_12_code 28 = .ok (.invokevirtual 159, 3) := by decide +kernel
theorem d_Sq_read_31 : decode prog_1_method_12_code 31 = .ok (.invokestatic 184, 3) := by decide +kernel
theorem d_Sq_read_34 : decode prog_1_method_12_code 34 = .ok (.invokevirtual 187, 3) := by decide +kernel
theorem d_Sq_read_37 : decode prog_1_method_12_code 37 = .ok (.putfield 180, 3) := by decide +kernel
theorem d_Sq_read_40 : decode prog_1_method_12_code 40 = .ok (.aload_n 0, 1) := by decide +kernel
theorem d_Sq_read_41 : decode prog_1_method_12_code 41 = .ok (.getfield 180, 3) := by decide +kernel
theorem d_Sq_read_44 : decode prog_1_method_12_code 44 = .ok (.ifCond .eq 5, 3) := by decide +kernel
theorem d_Sq_read_47 : decode prog_1_method_12_code 47 = .ok (.iconst (-1), 1) := by decide +kernel
theorem d_Sq_read_48 : decode prog_1_method_12_code 48 = .ok (.ireturn, 1) := by decide +kernel
theorem d_Sq_read_49 : decode prog_1_method_12_code 49 = .ok (.aload_n 0, 1) := by decide +kernel
theorem d_Sq_read_50 : decode prog_1_method_12_code 50 = .ok (.iconst 1, 1) := by decide +kernel
theorem d_Sq_read_51 : decode prog_1_method_12_code 51 = .ok (.putfield 177, 3) := by decide +kernel
theorem d_Sq_read_54 : decode prog_1_method_12_code 54 = .ok (.aload_n 0, 1) := by decide +kernel
theorem d_Sq_read_55 : decode prog_1_method_12_code 55 = .ok (.getfield 13, 3) := by decide +kernel
theorem d_Sq_read_58 : decode prog_1_method_12_code 58 = .ok (.invokevirtual 97, 3) := by decide +kernel
theorem d_Sq_read_61 : decode prog_1_method_12_code 61 = .ok (.ireturn, 1) := by decide +kernel
theorem d_Sq_readSymbol_0 : decode prog_1_method_19_code 0 = .ok (.aload_n 0, 1) := by decide +kernel
theorem d_Sq_readSymbol_1 : decode prog_1_method_19_code 1 = .ok (.getfield 54, 3) := by decide +kernel
theorem d_Sq_readSymbol_4 : decode prog_1_method_19_code 4 = .ok (.invokestatic 252, 3) := by decide +kernel
theorem d_Sq_readSymbol_7 : decode prog_1_method_19_code 7 = .ok (.istore_n 2, 1) := by decide +kernel
theorem d_Sq_readSymbol_8 : decode prog_1_method_19_code 8 = .ok (.iload_n 2, 1) := by decide +kernel
theorem d_Sq_readSymbol_9 : decode prog_1_method_19_code 9 = .ok (.iconst (-1), 1) := by decide +kernel
theorem d_Sq_readSymbol_10 : decode prog_1_method_19_code 10 = .ok (.if_icmp .ne 5, 3) := by decide +kernel
theorem d_Sq_readSymbol_13 : decode prog_1_method_19_code 13 = .ok (.iconst 1, 1) := by decide +kernel
theorem d_Sq_readSymbol_14 : decode prog_1_method_19_code 14 = .ok (.ireturn, 1) := by decide +kernel
theorem d_Sq_readSymbol_15 : decode prog_1_method_19_code 15 = .ok (.iload_n 2, 1) := by decide +kernel
theorem d_Sq_readSymbol_16 : decode prog_1_method_19_code 16 = .ok (.iconst 3, 1) := by decide +kernel
theorem d_Sq_readSymbol_17 : decode prog_1_method_19_code 17 = .ok (.ishr, 1) := by decide +kernel
theorem d_Sq_readSymbol_18 : decode prog_1_method_19_code 18 = .ok (.iconst 1, 1) := by decide +kernel
theorem d_Sq_readSymbol_19 : decode prog_1_method_19_code 19 = .ok (.ixor, 1) := by decide +kernel
theorem d_Sq_readSymbol_20 : decode prog_1_method_19_code 20 = .ok (.istore_n 3, 1) := by decide +kernel
theorem d_Sq_readSymbol_21 : decode prog_1_method_19_code 21 = .ok (.iload_n 2, 1) := by decide +kernel
theorem d_Sq_readSymbol_22 : decode prog_1_method_19_code 22 = .ok (.bipush 7, 2) := by decide +kernel
theorem d_Sq_readSymbol_24 : decode prog_1_method_19_code 24 = .ok (.iand, 1) := by decide +kernel
theorem d_Sq_readSymbol_25 : decode prog_1_method_19_code 25 = .ok (.istore 4, 2) := by decide +kernel
theorem d_Sq_readSymbol_27 : decode prog_1_method_19_code 27 = .ok (.aload_n 0, 1) := by decide +kernel
theorem d_Sq_readSymbol_28 : decode prog_1_method_19_code 28 = .ok (.getfield 31, 3) := by decide +kernel
theorem d_Sq_readSymbol_31 : decode prog_1_method_19_code 31 = .ok (.iload_n 3, 1) := by decide +kernel
theorem d_Sq_readSymbol_32 : decode prog_1_method_19_code 32 = .ok (.iload_n 1, 1) := by decide +kernel
theorem d_Sq_readSymbol_33 : decode prog_1_method_19_code 33 = .ok (.invokevirtual 206, 3) := by decide +kernel
theorem d_Sq_readSymbol_36 : decode prog_1_method_19_code 36 = .ok (.aload_n 0, 1) := by decide +kernel
theorem d_Sq_readSymbol_37 : decode prog_1_method_19_code 37 = .ok (.getfield 61, 3) := by decide +kernel
theorem d_Sq_readSymbol_40 : decode prog_1_method_19_code 40 = .ok (.iload_n 1, 1) := by decide +kernel
theorem d_Sq_readSymbol_41 : decode prog_1_method_19_code 41 = .ok (.invokevirtual 126, 3) := by decide +kernel
theorem d_Sq_readSymbol_44 : decode prog_1_method_19_code 44 = .ok (.aload_n 0, 1) := by decide +kernel
theorem d_Sq_readSymbol_45 : decode prog_1_method_19_code 45 = .ok (.getfield 61, 3) := by decide +kernel
theorem d_Sq_readSymbol_48 : decode prog_1_method_19_code 48 = .ok (.iload 4, 2) := by decide +kernel
theorem d_Sq_readSymbol_50 : decode prog_1_method_19_code 50 = .ok (.invokevirtual 245, 3) := by decide +kernel
theorem d_Sq_readSymbol_53 : decode prog_1_method_19_code 53 = .ok (.aload_n 0, 1) := by decide +kernel
theorem d_Sq_readSymbol_54 : decode prog_1_method_19_code 54 = .ok (.getfield 61, 3) := by decide +kernel
theorem d_Sq_readSymbol_57 : decode prog_1_method_19_code 57 = .ok (.aload_n 0, 1) := by decide +kernel
theorem d_Sq_readSymbol_58 : decode prog_1_method_19_code 58 = .ok (.getfield 54, 3) := by decide +kernel
theorem d_Sq_readSymbol_61 : decode prog_1_method_19_code 61 = .ok (.invokevirtual 242, 3) := by decide +kernel
theorem d_Sq_readSymbol_64 : decode prog_1_method_19_code 64 = .ok (.aload_n 0, 1) := by decide +kernel
theorem d_Sq_readSymbol_65 : decode prog_1_method_19_code 65 = .ok (.getfield 61, 3) := by decide +kernel
theorem d_Sq_readSymbol_68 : decode prog_1_method_19_code 68 = .ok (.aload_n 0, 1) := by decide +kernel
theorem d_Sq_readSymbol_69 : decode prog_1_method_19_code 69 = .ok (.getfield 54, 3) := by decide +kernel
theorem d_Sq_readSymbol_72 : decode prog_1_method_19_code 72 = .ok (.aload_n 0, 1) := by decide +kernel
theorem d_Sq_readSymbol_73 : decode prog_1_method_19_code 73 = .ok (.getfield 31, 3) := by decide +kernel
theorem d_Sq_readSymbol_76 : decode prog_1_method_19_code 76 = .ok (.invokevirtual 255, 3) := by decide +kernel
theorem d_Sq_readSymbol_79 : decode prog_1_method_19_code 79 = .ok (.aload_n 0, 1) := by decide +kernel
theorem d_Sq_readSymbol_80 : decode prog_1_method_19_code 80 = .ok (.getfield 61, 3) := by decide +kernel
theorem d_Sq_readSymbol_83 : decode prog_1_method_19_code 83 = .ok (.aload_n 0, 1) := by decide +kernel
theorem d_Sq_readSymbol_84 : decode prog_1_method_19_code 84 = .ok (.getfield 54, 3) := by decide +kernel
theorem d_Sq_readSymbol_87 : decode prog_1_method_19_code 87 = .ok (.invokevirtual 242, 3) := by decide +kernel
theorem d_Sq_readSymbol_90 : decode prog_1_method_19_code 90 = .ok (.aload_n 0, 1) := by decide +kernel
theorem d_Sq_readSymbol_91 : decode prog_1_method_19_code 91 = .ok (.getfield 38, 3) := by decide +kernel
theorem d_Sq_readSymbol_94 : decode prog_1_method_19_code 94 = .ok (.aload_n 0, 1) := by decide +kernel
theorem d_Sq_readSymbol_95 : decode prog_1_method_19_code 95 = .ok (.getfield 31, 3) := by decide +kernel
theorem d_Sq_readSymbol_98 : decode prog_1_method_19_code 98 = .ok (.iload_n 3, 1) := by decide +kernel
theorem d_Sq_readSymbol_99 : decode prog_1_method_19_code 99 = .ok (.iload_n 1, 1) := by decide +kernel
theorem d_Sq_readSymbol_100 : decode prog_1_method_19_code 100 = .ok (.invokestatic 259, 3) := by decide +kernel
theorem d_Sq_readSymbol_103 : decode prog_1_method_19_code 103 = .ok (.invokevirtual 262, 3) := by decide +kernel
theorem d_Sq_readSymbol_106 : decode prog_1_method_19_code 106 = .ok (.istore 5, 2) := by decide +kernel
theorem d_Sq_readSymbol_108 : decode prog_1_method_19_code 108 = .ok (.iload 5, 2) := by decide +kernel
theorem d_Sq_readSymbol_110 : decode prog_1_method_19_code 110 = .ok (.iconst (-1), 1) := by decide +kernel
theorem d_Sq_readSymbol_111 : decode prog_1_method_19_code 111 = .ok (.if_icmp .ne 5, 3) := by decide +kernel
theorem d_Sq_readSymbol_114 : decode prog_1_method_19_code 114 = .ok (.iconst 2, 1) := by decide +kernel
theorem d_Sq_readSymbol_115 : decode prog_1_method_19_code 115 = .ok (.ireturn, 1) := by decide +kernel
theorem d_Sq_readSymbol_116 : decode prog_1_method_19_code 116 = .ok (.aload_n 0, 1) := by decide +kernel
theorem d_Sq_readSymbol_117 : decode prog_1_method_19_code 117 = .ok (.getfield 47, 3) := by decide +kernel
theorem d_Sq_readSymbol_120 : decode prog_1_method_19_code 120 = .ok (.iload_n 1, 1) := by decide +kernel
theorem d_Sq_readSymbol_121 : decode prog_1_method_19_code 121 = .ok (.aconst_null, 1) := by decide +kernel
theorem d_Sq_readSymbol_122 : decode prog_1_method_19_code 122 = .ok (.invokevirtual 266, 3) := by decide +kernel
theorem d_Sq_readSymbol_125 : decode prog_1_method_19_code 125 = .ok (.istore 6, 2) := by decide +kernel
theorem d_Sq_readSymbol_127 : decode prog_1_method_19_code 127 = .ok (.iload 6, 2) := by decide +kernel
theorem d_Sq_readSymbol_129 : decode prog_1_method_19_code 129 = .ok (.ifCond .eq 6, 3) := by decide +kernel
theorem d_Sq_readSymbol_132 : decode prog_1_method_19_code 132 = .ok (.iload 6, 2) := by decide +kernel
theorem d_Sq_readSymbol_134 : decode prog_1_method_19_code 134 = .ok (.ireturn, 1) := by decide +kernel
theorem d_Sq_readSymbol_135 : decode prog_1_method_19_code 135 = .ok (.aload_n 0, 1) := by decide +kernel
theorem d_Sq_readSymbol_136 : decode prog_1_method_19_code 136 = .ok (.getfield 13, 3) := by decide +kernel
theorem d_Sq_readSymbol_139 : decode prog_1_method_19_code 139 = .ok (.invokevirtual 105, 3) := by decide +kernel
theorem d_Sq_readSymbol_142 : decode prog_1_method_19_code 142 = .ok (.aload_n 0, 1) := by decide +kernel
theorem d_Sq_readSymbol_143 : decode prog_1_method_19_code 143 = .ok (.getfield 47, 3) := by decide +kernel
theorem d_Sq_readSymbol_146 : decode prog_1_method_19_code 146 = .ok (.iload_n 1, 1) := by decide +kernel
theorem d_Sq_readSymbol_147 : decode prog_1_method_19_code 147 = .ok (.aload_n 0, 1) := by decide +kernel
theorem d_Sq_readSymbol_148 : decode prog_1_method_19_code 148 = .ok (.getfield 13, 3) := by decide +kernel
theorem d_Sq_readSymbol_151 : decode prog_1_method_19_code 151 = .ok (.invokevirtual 266, 3) := by decide +kernel
theorem d_Sq_readSymbol_154 : decode prog_1_method_19_code 154 = .ok (.pop, 1) := by decide +kernel
theorem d_Sq_readSymbol_155 : decode prog_1_method_19_code 155 = .ok (.aload_n 0, 1) := by decide +kernel
theorem d_Sq_readSymbol_156 : decode prog_1_method_19_code 156 = .ok (.getfield 79, 3) := by decide +kernel
theorem d_Sq_readSymbol_159 : decode prog_1_method_19_code 159 = .ok (.iconst 0, 1) := by decide +kernel
theorem d_Sq_readSymbol_160 : decode prog_1_method_19_code 160 = .ok (.iload_n 3, 1) := by decide +kernel
theorem d_Sq_readSymbol_161 : decode prog_1_method_19_code 161 = .ok (.iastore, 1) := by decide +kernel
theorem d_Sq_readSymbol_162 : decode prog_1_method_19_code 162 = .ok (.aload_n 0, 1) := by decide +kernel
theorem d_Sq_readSymbol_163 : decode prog_1_method_19_code 163 = .ok (.getfield 79, 3) := by decide +kernel
theorem d_Sq_readSymbol_166 : decode prog_1_method_19_code 166 = .ok (.iconst 1, 1) := by decide +kernel
theorem d_Sq_readSymbol_167 : decode prog_1_method_19_code 167 = .ok (.iload 4, 2) := by decide +kernel
theorem d_Sq_readSymbol_169 : decode prog_1_method_19_code 169 = .ok (.iastore, 1) := by decide +kernel
theorem d_Sq_readSymbol_170 : decode prog_1_method_19_code 170 = .ok (.aload_n 0, 1) := by decide +kernel
theorem d_Sq_readSymbol_171 : decode prog_1_method_19_code 171 = .ok (.getfield 79, 3) := by decide +kernel
theorem d_Sq_readSymbol_174 : decode prog_1_method_19_code 174 = .ok (.iconst 2, 1) := by decide +kernel
theorem d_Sq_readSymbol_175 : decode prog_1_method_19_code 175 = .ok (.iload 5, 2) := by decide +kernel
theorem d_Sq_readSymbol_177 : decode prog_1_method_19_code 177 = .ok (.iastore, 1) := by decide +kernel
theorem d_Sq_readSymbol_178 : decode prog_1_method_19_code 178 = .ok (.aload_n 0, 1) := by decide +kernel
theorem d_Sq_readSymbol_179 : decode prog_1_method_19_code 179 = .ok (.getfield 79, 3) := by decide +kernel
theorem d_Sq_readSymbol_182 : decode prog_1_method_19_code 182 = .ok (.iconst 3, 1) := by decide +kernel
theorem d_Sq_readSymbol_183 : decode prog_1_method_19_code 183 = .ok (.aload_n 0, 1) := by decide +kernel
theorem d_Sq_readSymbol_184 : decode prog_1_method_19_code 184 = .ok (.getfield 47, 3) := by decide +kernel
theorem d_Sq_readSymbol_187 : decode prog_1_method_19_code 187 = .ok (.invokevirtual 270, 3) := by decide +kernel
theorem d_Sq_readSymbol_190 : decode prog_1_method_19_code 190 = .ok (.iastore, 1) := by decide +kernel
theorem d_Sq_readSymbol_191 : decode prog_1_method_19_code 191 = .ok (.iconst 0, 1) := by decide +kernel
theorem d_Sq_readSymbol_192 : decode prog_1_method_19_code 192 = .ok (.ireturn, 1) := by decide +kernel
theorem d_Sq_item_0 : decode prog_1_method_20_code 0 = .ok (.iload_n 1, 1) := by decide +kernel
theorem d_Sq_item_1 : decode prog_1_method_20_code 1 = .ok (.ifCond .lt 15, 3) := by decide +kernel
theorem d_Sq_item_4 : decode prog_1_method_20_code 4 = .ok (.iload_n 1, 1) := by decide +kernel
theorem d_Sq_item_5 : decode prog_1_method_20_code 5 = .ok (.aload_n 0, 1) := by decide +kernel
theorem d_Sq_item_6 : decode prog_1_method_20_code 6 = .ok (.arraylength, 1) := by decide +kernel
theorem d_Sq_item_7 : decode prog_1_method_20_code 7 = .ok (.if_icmp .ge 9, 3) := by decide +kernel
theorem d_Sq_item_10 : decode prog_1_method_20_code 10 = .ok (.aload_n 0, 1) := by decide +kernel
theorem d_Sq_item_11 : decode prog_1_method_20_code 11 = .ok (.iload_n 1, 1) := by decide +kernel
theorem d_Sq_item_12 : decode prog_1_method_20_code 12 = .ok (.iaload, 1) := by decide +kernel
theorem d_Sq_item_13 : decode prog_1_method_20_code 13 = .ok (.goto 4, 3) := by decide +kernel
theorem d_Sq_item_16 : decode prog_1_method_20_code 16 = .ok (.iconst 0, 1) := by decide +kernel
theorem d_Sq_item_17 : decode prog_1_method_20_code 17 = .ok (.ireturn, 1) := by decide +kernel
theorem d_Sq_fault_0 : decode prog_1_method_13_code 0 = .ok (.aload_n 0, 1) := by decide +kernel
theorem d_Sq_fault_1 : decode prog_1_method_13_code 1 = .ok (.getfield 180, 3) := by decide +kernel
theorem d_Sq_fault_4 : decode prog_1_method_13_code 4 = .ok (.ireturn, 1) := by decide +kernel
theorem d_Sq_put_0 : decode prog_1_method_2_code 0 = .ok (.iload_n 1, 1) := by decide +kernel
theorem d_Sq_put_1 : decode prog_1_method_2_code 1 = .ok (.iconst 1, 1) := by decide +kernel
theorem d_Sq_put_2 : decode prog_1_method_2_code 2 = .ok (.if_icmp .lt 9, 3) := by decide +kernel
theorem d_Sq_put_5 : decode prog_1_method_2_code 5 = .ok (.iload_n 1, 1) := by decide +kernel
theorem d_Sq_put_6 : decode prog_1_method_2_code 6 = .ok (.bipush 8, 2) := by decide +kernel
theorem d_Sq_put_8 : decode prog_1_method_2_code 8 = .ok (.if_icmp .le 13, 3) := by decide +kernel
theorem d_Sq_put_11 : decode prog_1_method_2_code 11 = .ok (.new 82, 3) := by decide +kernel
theorem d_Sq_put_14 : decode prog_1_method_2_code 14 = .ok (.dup, 1) := by decide +kernel
theorem d_Sq_put_15 : decode prog_1_method_2_code 15 = .ok (.ldc 84, 2) := by decide +kernel
theorem d_Sq_put_17 : decode prog_1_method_2_code 17 = .ok (.invokespecial 86, 3) := by decide +kernel
theorem d_Sq_put_20 : decode prog_1_method_2_code 20 = .ok (.athrow, 1) := by decide +kernel
theorem d_Sq_put_21 : decode prog_1_method_2_code 21 = .ok (.aload_n 0, 1) := by decide +kernel
theorem d_Sq_put_22 : decode prog_1_method_2_code 22 = .ok (.getfield 13, 3) := by decide +kernel
theorem d_Sq_put_25 : decode prog_1_method_2_code 25 = .ok (.iload_n 1, 1) := by decide +kernel
theorem d_Sq_put_26 : decode prog_1_method_2_code 26 = .ok (.invokevirtual 89, 3) := by decide +kernel
theorem d_Sq_put_29 : decode prog_1_method_2_code 29 = .ok (.ifCond .ne 5, 3) := by decide +kernel
theorem d_Sq_put_32 : decode prog_1_method_2_code 32 = .ok (.iconst (-1), 1) := by decide +kernel
theorem d_Sq_put_33 : decode prog_1_method_2_code 33 = .ok (.ireturn, 1) := by decide +kernel
theorem d_Sq_put_34 : decode prog_1_method_2_code 34 = .ok (.iconst 0, 1) := by decide +kernel
theorem d_Sq_put_35 : decode prog_1_method_2_code 35 = .ok (.istore 4, 2) := by decide +kernel
theorem d_Sq_put_37 : decode prog_1_method_2_code 37 = .ok (.iload 4, 2) := by decide +kernel
theorem d_Sq_put_39 : decode prog_1_method_2_code 39 = .ok (.iload_n 1, 1) := by decide +kernel
theorem d_Sq_put_40 : decode prog_1_method_2_code 40 = .ok (.if_icmp .ge 28, 3) := by decide +kernel
theorem d_Sq_put_43 : decode prog_1_method_2_code 43 = .ok (.aload_n 0, 1) := by decide +kernel
theorem d_Sq_put_44 : decode prog_1_method_2_code 44 = .ok (.getfield 13, 3) := by decide +kernel
theorem d_Sq_put_47 : decode prog_1_method_2_code 47 = .ok (.lload_n 2, 1) := by decide +kernel
theorem d_Sq_put_48 : decode prog_1_method_2_code 48 = .ok (.bipush 8, 2) := by decide +kernel
theorem d_Sq_put_50 : decode prog_1_method_2_code 50 = .ok (.iload 4, 2) := by decide +kernel
theorem d_Sq_put_52 : decode prog_1_method_2_code 52 = .ok (.imul, 1) := by decide +kernel
theorem d_Sq_put_53 : decode prog_1_method_2_code 53 = .ok (.lushr, 1) := by decide +kernel
theorem d_Sq_put_54 : decode prog_1_method_2_code 54 = .ok (.l2i, 1) := by decide +kernel
theorem d_Sq_put_55 : decode prog_1_method_2_code 55 = .ok (.sipush 255, 3) := by decide +kernel
theorem d_Sq_put_58 : decode prog_1_method_2_code 58 = .ok (.iand, 1) := by decide +kernel
theorem d_Sq_put_59 : decode prog_1_method_2_code 59 = .ok (.invokevirtual 93, 3) := by decide +kernel
theorem d_Sq_put_62 : decode prog_1_method_2_code 62 = .ok (.iinc 4 1, 3) := by decide +kernel
theorem d_Sq_put_65 : decode prog_1_method_2_code 65 = .ok (.goto (-28), 3) := by decide +kernel
theorem d_Sq_put_68 : decode prog_1_method_2_code 68 = .ok (.aload_n 0, 1) := by decide +kernel
theorem d_Sq_put_69 : decode prog_1_method_2_code 69 = .ok (.getfield 13, 3) := by decide +kernel
theorem d_Sq_put_72 : decode prog_1_method_2_code 72 = .ok (.invokevirtual 97, 3) := by decide +kernel
theorem d_Sq_put_75 : decode prog_1_method_2_code 75 = .ok (.ireturn, 1) := by decide +kernel
theorem d_Sq_repeat_0 : decode prog_1_method_3_code 0 = .ok (.iload_n 1, 1) := by decide +kernel
theorem d_Sq_repeat_1 : decode prog_1_method_3_code 1 = .ok (.ifCond .lt 10, 3) := by decide +kernel
theorem d_Sq_repeat_4 : decode prog_1_method_3_code 4 = .ok (.iload_n 1, 1) := by decide +kernel
theorem d_Sq_repeat_5 : decode prog_1_method_3_code 5 = .ok (.sipush 255, 3) := by decide +kernel
theorem d_Sq_repeat_8 : decode prog_1_method_3_code 8 = .ok (.if_icmp .le 13, 3) := by decide +kernel
theorem d_Sq_repeat_11 : decode prog_1_method_3_code 11 = .ok (.new 82, 3) := by decide +kernel
theorem d_Sq_repeat_14 : decode prog_1_method_3_code 14 = .ok (.dup, 1) := by decide +kernel
theorem d_Sq_repeat_15 : decode prog_1_method_3_code 15 = .ok (.ldc 101, 2) := by decide +kernel
theorem d_Sq_repeat_17 : decode prog_1_method_3_code 17 = .ok (.invokespecial 86, 3) := by decide +kernel
theorem d_Sq_repeat_20 : decode prog_1_method_3_code 20 = .ok (.athrow, 1) := by decide +kernel
theorem d_Sq_repeat_21 : decode prog_1_method_3_code 21 = .ok (.iload_n 2, 1) := by decide +kernel
theorem d_Sq_repeat_22 : decode prog_1_method_3_code 22 = .ok (.ifCond .ge 13, 3) := by decide +kernel
theorem d_Sq_repeat_25 : decode prog_1_method_3_code 25 = .ok (.new 82, 3) := by decide +kernel
theorem d_Sq_repeat_28 : decode prog_1_method_3_code 28 = .ok (.dup, 1) := by decide +kernel
theorem d_Sq_repeat_29 : decode prog_1_method_3_code 29 = .ok (.ldc 103, 2) := by decide +kernel
theorem d_Sq_repeat_31 : decode prog_1_method_3_code 31 = .ok (.invokespecial 86, 3) := by decide +kernel
theorem d_Sq_repeat_34 : decode prog_1_method_3_code 34 = .ok (.athrow, 1) := by decide +kernel
theorem d_Sq_repeat_35 : decode prog_1_method_3_code 35 = .ok (.aload_n 0, 1) := by decide +kernel
theorem d_Sq_repeat_36 : decode prog_1_method_3_code 36 = .ok (.getfield 13, 3) := by decide +kernel
theorem d_Sq_repeat_39 : decode prog_1_method_3_code 39 = .ok (.iload_n 2, 1) := by decide +kernel
theorem d_Sq_repeat_40 : decode prog_1_method_3_code 40 = .ok (.invokevirtual 89, 3) := by decide +kernel
theorem d_Sq_repeat_43 : decode prog_1_method_3_code 43 = .ok (.ifCond .ne 5, 3) := by decide +kernel
theorem d_Sq_repeat_46 : decode prog_1_method_3_code 46 = .ok (.iconst (-1), 1) := by decide +kernel
theorem d_Sq_repeat_47 : decode prog_1_method_3_code 47 = .ok (.ireturn, 1) := by decide +kernel
theorem d_Sq_repeat_48 : decode prog_1_method_3_code 48 = .ok (.iconst 0, 1) := by decide +kernel
theorem d_Sq_repeat_49 : decode prog_1_method_3_code 49 = .ok (.istore_n 3, 1) := by decide +kernel
theorem d_Sq_repeat_50 : decode prog_1_method_3_code 50 = .ok (.iload_n 3, 1) := by decide +kernel
theorem d_Sq_repeat_51 : decode prog_1_method_3_code 51 = .ok (.iload_n 2, 1) := by decide +kernel
theorem d_Sq_repeat_52 : decode prog_1_method_3_code 52 = .ok (.if_icmp .ge 17, 3) := by decide +kernel
theorem d_Sq_repeat_55 : decode prog_1_method_3_code 55 = .ok (.aload_n 0, 1) := by decide +kernel
theorem d_Sq_repeat_56 : decode prog_1_method_3_code 56 = .ok (.getfield 13, 3) := by decide +kernel
theorem d_Sq_repeat_59 : decode prog_1_method_3_code 59 = .ok (.iload_n 1, 1) := by decide +kernel
theorem d_Sq_repeat_60 : decode prog_1_method_3_code 60 = .ok (.invokevirtual 93, 3) := by decide +kernel
theorem d_Sq_repeat_63 : decode prog_1_method_3_code 63 = .ok (.iinc 3 1, 3) := by decide +kernel
theorem d_Sq_repeat_66 : decode prog_1_method_3_code 66 = .ok (.goto (-16), 3) := by decide +kernel
theorem d_Sq_repeat_69 : decode prog_1_method_3_code 69 = .ok (.aload_n 0, 1) := by decide +kernel
theorem d_Sq_repeat_70 : decode prog_1_method_3_code 70 = .ok (.getfield 13, 3) := by decide +kernel
theorem d_Sq_repeat_73 : decode prog_1_method_3_code 73 = .ok (.invokevirtual 97, 3) := by decide +kernel
theorem d_Sq_repeat_76 : decode prog_1_method_3_code 76 = .ok (.ireturn, 1) := by decide +kernel
theorem d_Sq_make_0 : decode prog_1_method_6_code 0 = .ok (.iload_n 1, 1) := by decide +kernel
theorem d_Sq_make_1 : decode prog_1_method_6_code 1 = .ok (.ifCond .lt 8, 3) := by decide +kernel
theorem d_Sq_make_4 : decode prog_1_method_6_code 4 = .ok (.iload_n 1, 1) := by decide +kernel
theorem d_Sq_make_5 : decode prog_1_method_6_code 5 = .ok (.iconst 3, 1) := by decide +kernel
theorem d_Sq_make_6 : decode prog_1_method_6_code 6 = .ok (.if_icmp .le 13, 3) := by decide +kernel
theorem d_Sq_make_9 : decode prog_1_method_6_code 9 = .ok (.new 82, 3) := by decide +kernel
theorem d_Sq_make_12 : decode prog_1_method_6_code 12 = .ok (.dup, 1) := by decide +kernel
theorem d_Sq_make_13 : decode prog_1_method_6_code 13 = .ok (.ldc 112, 2) := by decide +kernel
theorem d_Sq_make_15 : decode prog_1_method_6_code 15 = .ok (.invokespecial 86, 3) := by decide +kernel
theorem d_Sq_make_18 : decode prog_1_method_6_code 18 = .ok (.athrow, 1) := by decide +kernel
theorem d_Sq_make_19 : decode prog_1_method_6_code 19 = .ok (.iload_n 2, 1) := by decide +kernel
theorem d_Sq_make_20 : decode prog_1_method_6_code 20 = .ok (.ifCond .lt 9, 3) := by decide +kernel
theorem d_Sq_make_23 : decode prog_1_method_6_code 23 = .ok (.iload_n 2, 1) := by decide +kernel
theorem d_Sq_make_24 : decode prog_1_method_6_code 24 = .ok (.bipush 40, 2) := by decide +kernel
theorem d_Sq_make_26 : decode prog_1_method_6_code 26 = .ok (.if_icmp .le 13, 3) := by decide +kernel
theorem d_Sq_make_29 : decode prog_1_method_6_code 29 = .ok (.new 82, 3) := by decide +kernel
theorem d_Sq_make_32 : decode prog_1_method_6_code 32 = .ok (.dup, 1) := by decide +kernel
theorem d_Sq_make_33 : decode prog_1_method_6_code 33 = .ok (.ldc 114, 2) := by decide +kernel
theorem d_Sq_make_35 : decode prog_1_method_6_code 35 = .ok (.invokespecial 86, 3) := by decide +kernel
theorem d_Sq_make_38 : decode prog_1_method_6_code 38 = .ok (.athrow, 1) := by decide +kernel
theorem d_Sq_make_39 : decode prog_1_method_6_code 39 = .ok (.iload_n 3, 1) := by decide +kernel
theorem d_Sq_make_40 : decode prog_1_method_6_code 40 = .ok (.iconst (-1), 1) := by decide +kernel
theorem d_Sq_make_41 : decode prog_1_method_6_code 41 = .ok (.if_icmp .eq 23, 3) := by decide +kernel
theorem d_Sq_make_44 : decode prog_1_method_6_code 44 = .ok (.iload_n 3, 1) := by decide +kernel
theorem d_Sq_make_45 : decode prog_1_method_6_code 45 = .ok (.ifCond .lt 9, 3) := by decide +kernel
theorem d_Sq_make_48 : decode prog_1_method_6_code 48 = .ok (.iload_n 3, 1) := by decide +kernel
theorem d_Sq_make_49 : decode prog_1_method_6_code 49 = .ok (.bipush 8, 2) := by decide +kernel
theorem d_Sq_make_51 : decode prog_1_method_6_code 51 = .ok (.if_icmp .lt 13, 3) := by decide +kernel
theorem d_Sq_make_54 : decode prog_1_method_6_code 54 = .ok (.new 82, 3) := by decide +kernel
theorem d_Sq_make_57 : decode prog_1_method_6_code 57 = .ok (.dup, 1) := by decide +kernel
theorem d_Sq_make_58 : decode prog_1_method_6_code 58 = .ok (.ldc 116, 2) := by decide +kernel
theorem d_Sq_make_60 : decode prog_1_method_6_code 60 = .ok (.invokespecial 86, 3) := by decide +kernel
theorem d_Sq_make_63 : decode prog_1_method_6_code 63 = .ok (.athrow, 1) := by decide +kernel
theorem d_Sq_make_64 : decode prog_1_method_6_code 64 = .ok (.aload_n 0, 1) := by decide +kernel
theorem d_Sq_make_65 : decode prog_1_method_6_code 65 = .ok (.iload_n 1, 1) := by decide +kernel
theorem d_Sq_make_66 : decode prog_1_method_6_code 66 = .ok (.iload_n 2, 1) := by decide +kernel
theorem d_Sq_make_67 : decode prog_1_method_6_code 67 = .ok (.invokevirtual 118, 3) := by decide +kernel
theorem d_Sq_make_70 : decode prog_1_method_6_code 70 = .ok (.istore 4, 2) := by decide +kernel
theorem d_Sq_make_72 : decode prog_1_method_6_code 72 = .ok (.iload 4, 2) := by decide +kernel
theorem d_Sq_make_74 : decode prog_1_method_6_code 74 = .ok (.iconst (-1), 1) := by decide +kernel
theorem d_Sq_make_75 : decode prog_1_method_6_code 75 = .ok (.if_icmp .ne 5, 3) := by decide +kernel
theorem d_Sq_make_78 : decode prog_1_method_6_code 78 = .ok (.iconst (-1), 1) := by decide +kernel
theorem d_Sq_make_79 : decode prog_1_method_6_code 79 = .ok (.ireturn, 1) := by decide +kernel
theorem d_Sq_make_80 : decode prog_1_method_6_code 80 = .ok (.aload_n 0, 1) := by decide +kernel
theorem d_Sq_make_81 : decode prog_1_method_6_code 81 = .ok (.iload_n 1, 1) := by decide +kernel
theorem d_Sq_make_82 : decode prog_1_method_6_code 82 = .ok (.iload 4, 2) := by decide +kernel
theorem d_Sq_make_84 : decode prog_1_method_6_code 84 = .ok (.invokevirtual 122, 3) := by decide +kernel
theorem d_Sq_make_87 : decode prog_1_method_6_code 87 = .ok (.aload_n 0, 1) := by decide +kernel
theorem d_Sq_make_88 : decode prog_1_method_6_code 88 = .ok (.getfield 61, 3) := by decide +kernel
theorem d_Sq_make_91 : decode prog_1_method_6_code 91 = .ok (.iload 4, 2) := by decide +kernel
theorem d_Sq_make_93 : decode prog_1_method_6_code 93 = .ok (.invokevirtual 126, 3) := by decide +kernel
theorem d_Sq_make_96 : decode prog_1_method_6_code 96 = .ok (.aload_n 0, 1) := by decide +kernel
theorem d_Sq_make_97 : decode prog_1_method_6_code 97 = .ok (.getfield 54, 3) := by decide +kernel
theorem d_Sq_make_100 : decode prog_1_method_6_code 100 = .ok (.aload_n 0, 1) := by decide +kernel
theorem d_Sq_make_101 : decode prog_1_method_6_code 101 = .ok (.getfield 61, 3) := by decide +kernel
theorem d_Sq_make_104 : decode prog_1_method_6_code 104 = .ok (.getfield 129, 3) := by decide +kernel
theorem d_Sq_make_107 : decode prog_1_method_6_code 107 = .ok (.invokevirtual 132, 3) := by decide +kernel
theorem d_Sq_make_110 : decode prog_1_method_6_code 110 = .ok (.aload_n 0, 1) := by decide +kernel
theorem d_Sq_make_111 : decode prog_1_method_6_code 111 = .ok (.getfield 61, 3) := by decide +kernel
theorem d_Sq_make_114 : decode prog_1_method_6_code 114 = .ok (.aload_n 0, 1) := by decide +kernel
theorem d_Sq_make_115 : decode prog_1_method_6_code 115 = .ok (.getfield 31, 3) := by decide +kernel
theorem d_Sq_make_118 : decode prog_1_method_6_code 118 = .ok (.aload_n 0, 1) := by decide +kernel
theorem d_Sq_make_119 : decode prog_1_method_6_code 119 = .ok (.getfield 54, 3) := by decide +kernel
theorem d_Sq_make_122 : decode prog_1_method_6_code 122 = .ok (.invokevirtual 136, 3) := by decide +kernel
theorem d_Sq_make_125 : decode prog_1_method_6_code 125 = .ok (.aload_n 0, 1) := by decide +kernel
theorem d_Sq_make_126 : decode prog_1_method_6_code 126 = .ok (.iload_n 1, 1) := by decide +kernel
theorem d_Sq_make_127 : decode prog_1_method_6_code 127 = .ok (.iload_n 3, 1) := by decide +kernel
theorem d_Sq_make_128 : decode prog_1_method_6_code 128 = .ok (.invokevirtual 140, 3) := by decide +kernel
theorem d_Sq_make_131 : decode prog_1_method_6_code 131 = .ok (.aload_n 0, 1) := by decide +kernel
theorem d_Sq_make_132 : decode prog_1_method_6_code 132 = .ok (.getfield 72, 3) := by decide +kernel
theorem d_Sq_make_135 : decode prog_1_method_6_code 135 = .ok (.iconst 0, 1) := by decide +kernel
theorem d_Sq_make_136 : decode prog_1_method_6_code 136 = .ok (.iload 4, 2) := by decide +kernel
theorem d_Sq_make_138 : decode prog_1_method_6_code 138 = .ok (.iastore, 1) := by decide +kernel
theorem d_Sq_make_139 : decode prog_1_method_6_code 139 = .ok (.aload_n 0, 1) := by decide +kernel
theorem d_Sq_make_140 : decode prog_1_method_6_code 140 = .ok (.getfield 72, 3) := by decide +kernel
theorem d_Sq_make_143 : decode prog_1_method_6_code 143 = .ok (.iconst 1, 1) := by decide +kernel
theorem d_Sq_make_144 : decode prog_1_method_6_code 144 = .ok (.iload_n 1, 1) := by decide +kernel
theorem d_Sq_make_145 : decode prog_1_method_6_code 145 = .ok (.iastore, 1) := by decide +kernel
theorem d_Sq_make_146 : decode prog_1_method_6_code 146 = .ok (.aload_n 0, 1) := by decide +kernel
theorem d_Sq_make_147 : decode prog_1_method_6_code 147 = .ok (.getfield 72, 3) := by decide +kernel
theorem d_Sq_make_150 : decode prog_1_method_6_code 150 = .ok (.iconst 5, 1) := by decide +kernel
theorem d_Sq_make_151 : decode prog_1_method_6_code 151 = .ok (.aload_n 0, 1) := by decide +kernel
theorem d_Sq_make_152 : decode prog_1_method_6_code 152 = .ok (.getfield 22, 3) := by decide +kernel
theorem d_Sq_make_155 : decode prog_1_method_6_code 155 = .ok (.invokevirtual 143, 3) := by decide +kernel
theorem d_Sq_make_158 : decode prog_1_method_6_code 158 = .ok (.iastore, 1) := by decide +kernel
theorem d_Sq_make_159 : decode prog_1_method_6_code 159 = .ok (.aload_n 0, 1) := by decide +kernel
theorem d_Sq_make_160 : decode prog_1_method_6_code 160 = .ok (.iconst 1, 1) := by decide +kernel
theorem d_Sq_make_161 : decode prog_1_method_6_code 161 = .ok (.putfield 146, 3) := by decide +kernel
theorem d_Sq_make_164 : decode prog_1_method_6_code 164 = .ok (.iload 4, 2) := by decide +kernel
theorem d_Sq_make_166 : decode prog_1_method_6_code 166 = .ok (.ireturn, 1) := by decide +kernel
theorem d_Sq_fittingVersion_0 : decode prog_1_method_15_code 0 = .ok (.iload_n 2, 1) := by decide +kernel
theorem d_Sq_fittingVersion_1 : decode prog_1_method_15_code 1 = .ok (.ifCond .ne 7, 3) := by decide +kernel
theorem d_Sq_fittingVersion_4 : decode prog_1_method_15_code 4 = .ok (.iconst 1, 1) := by decide +kernel
theorem d_Sq_fittingVersion_5 : decode prog_1_method_15_code 5 = .ok (.goto 4, 3) := by decide +kernel
theorem d_Sq_fittingVersion_8 : decode prog_1_method_15_code 8 = .ok (.iload_n 2, 1) := by decide +kernel
theorem d_Sq_fittingVersion_9 : decode prog_1_method_15_code 9 = .ok (.istore_n 3, 1) := by decide +kernel
theorem d_Sq_fittingVersion_10 : decode prog_1_method_15_code 10 = .ok (.iload_n 2, 1) := by decide +kernel
theorem d_Sq_fittingVersion_11 : decode prog_1_method_15_code 11 = .ok (.ifCond .ne 8, 3) := by decide +kernel
theorem d_Sq_fittingVersion_14 : decode prog_1_method_15_code 14 = .ok (.bipush 40, 2) := by decide +kernel
theorem d_Sq_fittingVersion_16 : decode prog_1_method_15_code 16 = .ok (.goto 4, 3) := by decide +kernel
theorem d_Sq_fittingVersion_19 : decode prog_1_method_15_code 19 = .ok (.iload_n 2, 1) := by decide +kernel
theorem d_Sq_fittingVersion_20 : decode prog_1_method_15_code 20 = .ok (.istore 4, 2) := by decide +kernel
theorem d_Sq_fittingVersion_22 : decode prog_1_method_15_code 22 = .ok (.iconst (-1), 1) := by decide +kernel
theorem d_Sq_fittingVersion_23 : decode prog_1_method_15_code 23 = .ok (.istore 5, 2) := by decide +kernel
theorem d_Sq_fittingVersion_25 : decode prog_1_method_15_code 25 = .ok (.iload_n 3, 1) := by decide +kernel
theorem d_Sq_fittingVersion_26 : decode prog_1_method_15_code 26 = .ok (.istore 6, 2) := by decide +kernel
theorem d_Sq_fittingVersion_28 : decode prog_1_method_15_code 28 = .ok (.iload 6, 2) := by decide +kernel
theorem d_Sq_fittingVersion_30 : decode prog_1_method_15_code 30 = .ok (.iload 4, 2) := by decide +kernel
theorem d_Sq_fittingVersion_32 : decode prog_1_method_15_code 32 = .ok (.if_icmp .gt 84, 3) := by decide +kernel
theorem d_Sq_fittingVersion_35 : decode prog_1_method_15_code 35 = .ok (.bipush 8, 2) := by decide +kernel
theorem d_Sq_fittingVersion_37 : decode prog_1_method_15_code 37 = .ok (.iload_n 1, 1) := by decide +kernel
theorem d_Sq_fittingVersion_38 : decode prog_1_method_15_code 38 = .ok (.iload 6, 2) := by decide +kernel
theorem d_Sq_fittingVersion_40 : decode prog_1_method_15_code 40 = .ok (.invokestatic 192, 3) := by decide +kernel
theorem d_Sq_fittingVersion_43 : decode prog_1_method_15_code 43 = .ok (.imul, 1) := by decide +kernel
theorem d_Sq_fittingVersion_44 : decode prog_1_method_15_code 44 = .ok (.istore 7, 2) := by decide +kernel
theorem d_Sq_fittingVersion_46 : decode prog_1_method_15_code 46 = .ok (.iconst 3, 1) := by decide +kernel
theorem d_Sq_fittingVersion_47 : decode prog_1_method_15_code 47 = .ok (.aload_n 0, 1) := by decide +kernel
theorem d_Sq_fittingVersion_48 : decode prog_1_method_15_code 48 = .ok (.getfield 13, 3) := by decide +kernel
theorem d_Sq_fittingVersion_51 : decode prog_1_method_15_code 51 = .ok (.invokevirtual 97, 3) := by decide +kernel
theorem d_Sq_fittingVersion_54 : decode prog_1_method_15_code 54 = .ok (.imul, 1) := by decide +kernel
theorem d_Sq_fittingVersion_55 : decode prog_1_method_15_code 55 = .ok (.iload 7, 2) := by decide +kernel
theorem d_Sq_fittingVersion_57 : decode prog_1_method_15_code 57 = .ok (.if_icmp .le 6, 3) := by decide +kernel
theorem d_Sq_fittingVersion_60 : decode prog_1_method_15_code 60 = .ok (.goto 50, 3) := by decide +kernel
theorem d_Sq_fittingVersion_63 : decode prog_1_method_15_code 63 = .ok (.iload 6, 2) := by decide +kernel
theorem d_Sq_fittingVersion_65 : decode prog_1_method_15_code 65 = .ok (.invokestatic 195, 3) := by decide +kernel
theorem d_Sq_fittingVersion_68 : decode prog_1_method_15_code 68 = .ok (.iload 5, 2) := by decide +kernel
theorem d_Sq_fittingVersion_70 : decode prog_1_method_15_code 70 = .ok (.if_icmp .eq 23, 3) := by decide +kernel
theorem d_Sq_fittingVersion_73 : decode prog_1_method_15_code 73 = .ok (.aload_n 0, 1) := by decide +kernel
theorem d_Sq_fittingVersion_74 : decode prog_1_method_15_code 74 = .ok (.getfield 22, 3) := by decide +kernel
theorem d_Sq_fittingVersion_77 : decode prog_1_method_15_code 77 = .ok (.aload_n 0, 1) := by decide +kernel
theorem d_Sq_fittingVersion_78 : decode prog_1_method_15_code 78 = .ok (.getfield 13, 3) := by decide +kernel
theorem d_Sq_fittingVersion_81 : decode prog_1_method_15_code 81 = .ok (.iload 6, 2) := by decide +kernel
theorem d_Sq_fittingVersion_83 : decode prog_1_method_15_code 83 = .ok (.invokevirtual 198, 3) := by decide +kernel
theorem d_Sq_fittingVersion_86 : decode prog_1_method_15_code 86 = .ok (.iload 6, 2) := by decide +kernel
theorem d_Sq_fittingVersion_88 : decode prog_1_method_15_code 88 = .ok (.invokestatic 195, 3) := by decide +kernel
theorem d_Sq_fittingVersion_91 : decode prog_1_method_15_code 91 = .ok (.istore 5, 2) := by decide +kernel
theorem d_Sq_fittingVersion_93 : decode prog_1_method_15_code 93 = .ok (.aload_n 0, 1) := by decide +kernel
theorem d_Sq_fittingVersion_94 : decode prog_1_method_15_code 94 = .ok (.getfield 22, 3) := by decide +kernel
theorem d_Sq_fittingVersion_97 : decode prog_1_method_15_code 97 = .ok (.iload 7, 2) := by decide +kernel
theorem d_Sq_fittingVersion_99 : decode prog_1_method_15_code 99 = .ok (.iload 6, 2) := by decide +kernel
theorem d_Sq_fittingVersion_101 : decode prog_1_method_15_code 101 = .ok (.invokevirtual 202, 3) := by decide +kernel
theorem d_Sq_fittingVersion_104 : decode prog_1_method_15_code 104 = .ok (.ifCond .eq 6, 3) := by decide +kernel
theorem d_Sq_fittingVersion_107 : decode prog_1_method_15_code 107 = .ok (.iload 6, 2) := by decide +kernel
theorem d_Sq_fittingVersion_109 : decode prog_1_method_15_code 109 = .ok (.ireturn, 1) := by decide +kernel
theorem d_Sq_fittingVersion_110 : decode prog_1_method_15_code 110 = .ok (.iinc 6 1, 3) := by decide +kernel
theorem d_Sq_fittingVersion_113 : decode prog_1_method_15_code 113 = .ok (.goto (-85), 3) := by decide +kernel
theorem d_Sq_fittingVersion_116 : decode prog_1_method_15_code 116 = .ok (.iconst (-1), 1) := by decide +kernel
theorem d_Sq_fittingVersion_117 : decode prog_1_method_15_code 117 = .ok (.ireturn, 1) := by decide +kernel
theorem d_Sq_writeCodewords_0 : decode prog_1_method_16_code 0 = .ok (.aload_n 0, 1) := by decide +kernel
theorem d_Sq_writeCodewords_1 : decode prog_1_method_16_code 1 = .ok (.getfield 31, 3) := by decide +kernel
theorem d_Sq_writeCodewords_4 : decode prog_1_method_16_code 4 = .ok (.iload_n 1, 1) := by decide +kernel
theorem d_Sq_writeCodewords_5 : decode prog_1_method_16_code 5 = .ok (.iload_n 2, 1) := by decide +kernel
theorem d_Sq_writeCodewords_6 : decode prog_1_method_16_code 6 = .ok (.invokevirtual 206, 3) := by decide +kernel
theorem d_Sq_writeCodewords_9 : decode prog_1_method_16_code 9 = .ok (.aload_n 0, 1) := by decide +kernel
theorem d_Sq_writeCodewords_10 : decode prog_1_method_16_code 10 = .ok (.getfield 22, 3) := by decide +kernel
theorem d_Sq_writeCodewords_13 : decode prog_1_method_16_code 13 = .ok (.invokevirtual 209, 3) := by decide +kernel
theorem d_Sq_writeCodewords_16 : decode prog_1_method_16_code 16 = .ok (.iconst 0, 1) := by decide +kernel
theorem d_Sq_writeCodewords_17 : decode prog_1_method_16_code 17 = .ok (.istore_n 3, 1) := by decide +kernel
theorem d_Sq_writeCodewords_18 : decode prog_1_method_16_code 18 = .ok (.iconst 0, 1) := by decide +kernel
theorem d_Sq_writeCodewords_19 : decode prog_1_method_16_code 19 = .ok (.istore 4, 2) := by decide +kernel
theorem d_Sq_writeCodewords_21 : decode prog_1_method_16_code 21 = .ok (.iload 4, 2) := by decide +kernel
theorem d_Sq_writeCodewords_23 : decode prog_1_method_16_code 23 = .ok (.aload_n 0, 1) := by decide +kernel
theorem d_Sq_writeCodewords_24 : decode prog_1_method_16_code 24 = .ok (.getfield 76, 3) := by decide +kernel
theorem d_Sq_writeCodewords_27 : decode prog_1_method_16_code 27 = .ok (.arraylength, 1) := by decide +kernel
theorem d_Sq_writeCodewords_28 : decode prog_1_method_16_code 28 = .ok (.if_icmp .ge 78, 3) := by decide +kernel
theorem d_Sq_writeCodewords_31 : decode prog_1_method_16_code 31 = .ok (.aload_n 0, 1) := by decide +kernel
theorem d_Sq_writeCodewords_32 : decode prog_1_method_16_code 32 = .ok (.getfield 22, 3) := by decide +kernel
theorem d_Sq_writeCodewords_35 : decode prog_1_method_16_code 35 = .ok (.invokevirtual 212, 3) := by decide +kernel
theorem d_Sq_writeCodewords_38 : decode prog_1_method_16_code 38 = .ok (.ifCond .eq 68, 3) := by decide +kernel
theorem d_Sq_writeCodewords_41 : decode prog_1_method_16_code 41 = .ok (.aload_n 0, 1) := by decide +kernel
theorem d_Sq_writeCodewords_42 : decode prog_1_method_16_code 42 = .ok (.getfield 76, 3) := by decide +kernel
theorem d_Sq_writeCodewords_45 : decode prog_1_method_16_code 45 = .ok (.iload 4, 2) := by decide +kernel
theorem d_Sq_writeCodewords_47 : decode prog_1_method_16_code 47 = .ok (.iconst 4, 1) := by decide +kernel
theorem d_Sq_writeCodewords_48 : decode prog_1_method_16_code 48 = .ok (.aload_n 0, 1) := by decide +kernel
theorem d_Sq_writeCodewords_49 : decode prog_1_method_16_code 49 = .ok (.getfield 22, 3) := by decide +kernel
theorem d_Sq_writeCodewords_52 : decode prog_1_method_16_code 52 = .ok (.invokevirtual 216, 3) := by decide +kernel
theorem d_Sq_writeCodewords_55 : decode prog_1_method_16_code 55 = .ok (.imul, 1) := by decide +kernel
theorem d_Sq_writeCodewords_56 : decode prog_1_method_16_code 56 = .ok (.aload_n 0, 1) := by decide +kernel
theorem d_Sq_writeCodewords_57 : decode prog_1_method_16_code 57 = .ok (.getfield 22, 3) := by decide +kernel
theorem d_Sq_writeCodewords_60 : decode prog_1_method_16_code 60 = .ok (.invokevirtual 219, 3) := by decide +kernel
theorem d_Sq_writeCodewords_63 : decode prog_1_method_16_code 63 = .ok (.iadd, 1) := by decide +kernel
theorem d_Sq_writeCodewords_64 : decode prog_1_method_16_code 64 = .ok (.iastore, 1) := by decide +kernel
theorem d_Sq_writeCodewords_65 : decode prog_1_method_16_code 65 = .ok (.aload_n 0, 1) := by decide +kernel
theorem d_Sq_writeCodewords_66 : decode prog_1_method_16_code 66 = .ok (.getfield 31, 3) := by decide +kernel
theorem d_Sq_writeCodewords_69 : decode prog_1_method_16_code 69 = .ok (.aload_n 0, 1) := by decide +kernel
theorem d_Sq_writeCodewords_70 : decode prog_1_method_16_code 70 = .ok (.getfield 13, 3) := by decide +kernel
theorem d_Sq_writeCodewords_73 : decode prog_1_method_16_code 73 = .ok (.aload_n 0, 1) := by decide +kernel
theorem d_Sq_writeCodewords_74 : decode prog_1_method_16_code 74 = .ok (.getfield 22, 3) := by decide +kernel
theorem d_Sq_writeCodewords_77 : decode prog_1_method_16_code 77 = .ok (.invokevirtual 222, 3) := by decide +kernel
theorem d_Sq_writeCodewords_80 : decode prog_1_method_16_code 80 = .ok (.aload_n 0, 1) := by decide +kernel
theorem d_Sq_writeCodewords_81 : decode prog_1_method_16_code 81 = .ok (.getfield 22, 3) := by decide +kernel
theorem d_Sq_writeCodewords_84 : decode prog_1_method_16_code 84 = .ok (.invokevirtual 216, 3) := by decide +kernel
theorem d_Sq_writeCodewords_87 : decode prog_1_method_16_code 87 = .ok (.aload_n 0, 1) := by decide +kernel
theorem d_Sq_writeCodewords_88 : decode prog_1_method_16_code 88 = .ok (.getfield 22, 3) := by decide +kernel
theorem d_Sq_writeCodewords_91 : decode prog_1_method_16_code 91 = .ok (.invokevirtual 219, 3) := by decide +kernel
theorem d_Sq_writeCodewords_94 : decode prog_1_method_16_code 94 = .ok (.invokevirtual 224, 3) := by decide +kernel
theorem d_Sq_writeCodewords_97 : decode prog_1_method_16_code 97 = .ok (.iinc 3 1, 3) := by decide +kernel
theorem d_Sq_writeCodewords_100 : decode prog_1_method_16_code 100 = .ok (.iinc 4 1, 3) := by decide +kernel
theorem d_Sq_writeCodewords_103 : decode prog_1_method_16_code 103 = .ok (.goto (-82), 3) := by decide +kernel
theorem d_Sq_writeCodewords_106 : decode prog_1_method_16_code 106 = .ok (.aload_n 0, 1) := by decide +kernel
theorem d_Sq_writeCodewords_107 : decode prog_1_method_16_code 107 = .ok (.getfield 31, 3) := by decide +kernel
theorem d_Sq_writeCodewords_110 : decode prog_1_method_16_code 110 = .ok (.invokevirtual 228, 3) := by decide +kernel
theorem d_Sq_writeCodewords_113 : decode prog_1_method_16_code 113 = .ok (.aload_n 0, 1) := by decide +kernel
theorem d_Sq_writeCodewords_114 : decode prog_1_method_16_code 114 = .ok (.getfield 31, 3) := by decide +kernel
theorem d_Sq_writeCodewords_117 : decode prog_1_method_16_code 117 = .ok (.invokevirtual 231, 3) := by decide +kernel
theorem d_Sq_writeCodewords_120 : decode prog_1_method_16_code 120 = .ok (.aload_n 0, 1) := by decide +kernel
theorem d_Sq_writeCodewords_121 : decode prog_1_method_16_code 121 = .ok (.getfield 72, 3) := by decide +kernel
theorem d_Sq_writeCodewords_124 : decode prog_1_method_16_code 124 = .ok (.iconst 4, 1) := by decide +kernel
theorem d_Sq_writeCodewords_125 : decode prog_1_method_16_code 125 = .ok (.iload_n 3, 1) := by decide +kernel
theorem d_Sq_writeCodewords_126 : decode prog_1_method_16_code 126 = .ok (.iastore, 1) := by decide +kernel
theorem d_Sq_writeCodewords_127 : decode prog_1_method_16_code 127 = .ok (.return_, 1) := by decide +kernel
theorem d_Sq_dressBest_0 : decode prog_1_method_17_code 0 = .ok (.iload_n 2, 1) := by decide +kernel
theorem d_Sq_dressBest_1 : decode prog_1_method_17_code 1 = .ok (.istore_n 3, 1) := by decide +kernel
theorem d_Sq_dressBest_2 : decode prog_1_method_17_code 2 = .ok (.ldc 234, 2) := by decide +kernel
theorem d_Sq_dressBest_4 : decode prog_1_method_17_code 4 = .ok (.istore 4, 2) := by decide +kernel
theorem d_Sq_dressBest_6 : decode prog_1_method_17_code 6 = .ok (.iconst 0, 1) := by decide +kernel
theorem d_Sq_dressBest_7 : decode prog_1_method_17_code 7 = .ok (.istore 5, 2) := by decide +kernel
theorem d_Sq_dressBest_9 : decode prog_1_method_17_code 9 = .ok (.iload 5, 2) := by decide +kernel
theorem d_Sq_dressBest_11 : decode prog_1_method_17_code 11 = .ok (.bipush 8, 2) := by decide +kernel
theorem d_Sq_dressBest_13 : decode prog_1_method_17_code 13 = .ok (.if_icmp .ge 59, 3) := by decide +kernel
theorem d_Sq_dressBest_16 : decode prog_1_method_17_code 16 = .ok (.iload_n 2, 1) := by decide +kernel
theorem d_Sq_dressBest_17 : decode prog_1_method_17_code 17 = .ok (.iconst (-1), 1) := by decide +kernel
theorem d_Sq_dressBest_18 : decode prog_1_method_17_code 18 = .ok (.if_icmp .ne 54, 3) := by decide +kernel
theorem d_Sq_dressBest_21 : decode prog_1_method_17_code 21 = .ok (.aload_n 0, 1) := by decide +kernel
theorem d_Sq_dressBest_22 : decode prog_1_method_17_code 22 = .ok (.iload_n 1, 1) := by decide +kernel
theorem d_Sq_dressBest_23 : decode prog_1_method_17_code 23 = .ok (.iload 5, 2) := by decide +kernel
theorem d_Sq_dressBest_25 : decode prog_1_method_17_code 25 = .ok (.invokevirtual 235, 3) := by decide +kernel
theorem d_Sq_dressBest_28 : decode prog_1_method_17_code 28 = .ok (.aload_n 0, 1) := by decide +kernel
theorem d_Sq_dressBest_29 : decode prog_1_method_17_code 29 = .ok (.getfield 68, 3) := by decide +kernel
theorem d_Sq_dressBest_32 : decode prog_1_method_17_code 32 = .ok (.aload_n 0, 1) := by decide +kernel
theorem d_Sq_dressBest_33 : decode prog_1_method_17_code 33 = .ok (.getfield 54, 3) := by decide +kernel
theorem d_Sq_dressBest_36 : decode prog_1_method_17_code 36 = .ok (.invokevirtual 238, 3) := by decide +kernel
theorem d_Sq_dressBest_39 : decode prog_1_method_17_code 39 = .ok (.istore 6, 2) := by decide +kernel
theorem d_Sq_dressBest_41 : decode prog_1_method_17_code 41 = .ok (.iload 6, 2) := by decide +kernel
theorem d_Sq_dressBest_43 : decode prog_1_method_17_code 43 = .ok (.iload 4, 2) := by decide +kernel
theorem d_Sq_dressBest_45 : decode prog_1_method_17_code 45 = .ok (.if_icmp .ge 10, 3) := by decide +kernel
theorem d_Sq_dressBest_48 : decode prog_1_method_17_code 48 = .ok (.iload 6, 2) := by decide +kernel
theorem d_Sq_dressBest_50 : decode prog_1_method_17_code 50 = .ok (.istore 4, 2) := by decide +kernel
theorem d_Sq_dressBest_52 : decode prog_1_method_17_code 52 = .ok (.iload 5, 2) := by decide +kernel
theorem d_Sq_dressBest_54 : decode prog_1_method_17_code 54 = .ok (.istore_n 3, 1) := by decide +kernel
theorem d_Sq_dressBest_55 : decode prog_1_method_17_code 55 = .ok (.aload_n 0, 1) := by decide +kernel
theorem d_Sq_dressBest_56 : decode prog_1_method_17_code 56 = .ok (.getfield 61, 3) := by decide +kernel
theorem d_Sq_dressBest_59 : decode prog_1_method_17_code 59 = .ok (.aload_n 0, 1) := by decide +kernel
theorem d_Sq_dressBest_60 : decode prog_1_method_17_code 60 = .ok (.getfield 54, 3) := by decide +kernel
theorem d_Sq_dressBest_63 : decode prog_1_method_17_code 63 = .ok (.invokevirtual 242, 3) := by decide +kernel
theorem d_Sq_dressBest_66 : decode prog_1_method_17_code 66 = .ok (.iinc 5 1, 3) := by decide +kernel
theorem d_Sq_dressBest_69 : decode prog_1_method_17_code 69 = .ok (.goto (-60), 3) := by decide +kernel
theorem d_Sq_dressBest_72 : decode prog_1_method_17_code 72 = .ok (.aload_n 0, 1) := by decide +kernel
theorem d_Sq_dressBest_73 : decode prog_1_method_17_code 73 = .ok (.iload_n 1, 1) := by decide +kernel
theorem d_Sq_dressBest_74 : decode prog_1_method_17_code 74 = .ok (.iload_n 3, 1) := by decide +kernel
theorem d_Sq_dressBest_75 : decode prog_1_method_17_code 75 = .ok (.invokevirtual 235, 3) := by decide +kernel
theorem d_Sq_dressBest_78 : decode prog_1_method_17_code 78 = .ok (.aload_n 0, 1) := by decide +kernel
theorem d_Sq_dressBest_79 : decode prog_1_method_17_code 79 = .ok (.getfield 72, 3) := by decide +kernel
theorem d_Sq_dressBest_82 : decode prog_1_method_17_code 82 = .ok (.iconst 2, 1) := by decide +kernel
theorem d_Sq_dressBest_83 : decode prog_1_method_17_code 83 = .ok (.iload_n 3, 1) := by decide +kernel
theorem d_Sq_dressBest_84 : decode prog_1_method_17_code 84 = .ok (.iastore, 1) := by decide +kernel
theorem d_Sq_dressBest_85 : decode prog_1_method_17_code 85 = .ok (.aload_n 0, 1) := by decide +kernel
theorem d_Sq_dressBest_86 : decode prog_1_method_17_code 86 = .ok (.getfield 72, 3) := by decide +kernel
theorem d_Sq_dressBest_89 : decode prog_1_method_17_code 89 = .ok (.iconst 3, 1) := by decide +kernel
theorem d_Sq_dressBest_90 : decode prog_1_method_17_code 90 = .ok (.iload_n 2, 1) := by decide +kernel
theorem d_Sq_dressBest_91 : decode prog_1_method_17_code 91 = .ok (.iconst (-1), 1) := by decide +kernel
theorem d_Sq_dressBest_92 : decode prog_1_method_17_code 92 = .ok (.if_icmp .ne 8, 3) := by decide +kernel
theorem d_Sq_dressBest_95 : decode prog_1_method_17_code 95 = .ok (.iload 4, 2) := by decide +kernel
theorem d_Sq_dressBest_97 : decode prog_1_method_17_code 97 = .ok (.goto 14, 3) := by decide +kernel
theorem d_Sq_dressBest_100 : decode prog_1_method_17_code 100 = .ok (.aload_n 0, 1) := by decide +kernel
theorem d_Sq_dressBest_101 : decode prog_1_method_17_code 101 = .ok (.getfield 68, 3) := by decide +kernel
theorem d_Sq_dressBest_104 : decode prog_1_method_17_code 104 = .ok (.aload_n 0, 1) := by decide +kernel
theorem d_Sq_dressBest_105 : decode prog_1_method_17_code 105 = .ok (.getfield 54, 3) := by decide +kernel
theorem d_Sq_dressBest_108 : decode prog_1_method_17_code 108 = .ok (.invokevirtual 238, 3) := by decide +kernel
theorem d_Sq_dressBest_111 : decode prog_1_method_17_code 111 = .ok (.iastore, 1) := by decide +kernel
theorem d_Sq_dressBest_112 : decode prog_1_method_17_code 112 = .ok (.return_, 1) := by decide +kernel
theorem d_Sq_dress_0 : decode prog_1_method_18_code 0 = .ok (.aload_n 0, 1) := by decide +kernel
theorem d_Sq_dress_1 : decode prog_1_method_18_code 1 = .ok (.getfield 61, 3) := by decide +kernel
theorem d_Sq_dress_4 : decode prog_1_method_18_code 4 = .ok (.iload_n 2, 1) := by decide +kernel
theorem d_Sq_dress_5 : decode prog_1_method_18_code 5 = .ok (.invokevirtual 245, 3) := by decide +kernel
theorem d_Sq_dress_8 : decode prog_1_method_18_code 8 = .ok (.aload_n 0, 1) := by decide +kernel
theorem d_Sq_dress_9 : decode prog_1_method_18_code 9 = .ok (.getfield 61, 3) := by decide +kernel
theorem d_Sq_dress_12 : decode prog_1_method_18_code 12 = .ok (.aload_n 0, 1) := by decide +kernel
theorem d_Sq_dress_13 : decode prog_1_method_18_code 13 = .ok (.getfield 54, 3) := by decide +kernel
theorem d_Sq_dress_16 : decode prog_1_method_18_code 16 = .ok (.invokevirtual 242, 3) := by decide +kernel
theorem d_Sq_dress_19 : decode prog_1_method_18_code 19 = .ok (.aload_n 0, 1) := by decide +kernel
theorem d_Sq_dress_20 : decode prog_1_method_18_code 20 = .ok (.getfield 54, 3) := by decide +kernel
theorem d_Sq_dress_23 : decode prog_1_method_18_code 23 = .ok (.iload_n 1, 1) := by decide +kernel
theorem d_Sq_dress_24 : decode prog_1_method_18_code 24 = .ok (.iload_n 2, 1) := by decide +kernel
theorem d_Sq_dress_25 : decode prog_1_method_18_code 25 = .ok (.invokestatic 248, 3) := by decide +kernel
theorem d_Sq_dress_28 : decode prog_1_method_18_code 28 = .ok (.return_, 1) := by decide +kernel
theorem d_Sq_blank_0 : decode prog_1_method_7_code 0 = .ok (.iload_n 1, 1) := by decide +kernel
theorem d_Sq_blank_1 : decode prog_1_method_7_code 1 = .ok (.iconst 1, 1) := by decide +kernel
theorem d_Sq_blank_2 : decode prog_1_method_7_code 2 = .ok (.if_icmp .lt 9, 3) := by decide +kernel
theorem d_Sq_blank_5 : decode prog_1_method_7_code 5 = .ok (.iload_n 1, 1) := by decide +kernel
theorem d_Sq_blank_6 : decode prog_1_method_7_code 6 = .ok (.bipush 40, 2) := by decide +kernel
theorem d_Sq_blank_8 : decode prog_1_method_7_code 8 = .ok (.if_icmp .le 13, 3) := by decide +kernel
theorem d_Sq_blank_11 : decode prog_1_method_7_code 11 = .ok (.new 82, 3) := by decide +kernel
theorem d_Sq_blank_14 : decode prog_1_method_7_code 14 = .ok (.dup, 1) := by decide +kernel
theorem d_Sq_blank_15 : decode prog_1_method_7_code 15 = .ok (.ldc 150, 2) := by decide +kernel
theorem d_Sq_blank_17 : decode prog_1_method_7_code 17 = .ok (.invokespecial 86, 3) := by decide +kernel
theorem d_Sq_blank_20 : decode prog_1_method_7_code 20 = .ok (.athrow, 1) := by decide +kernel
theorem d_Sq_blank_21 : decode prog_1_method_7_code 21 = .ok (.aload_n 0, 1) := by decide +kernel
theorem d_Sq_blank_22 : decode prog_1_method_7_code 22 = .ok (.getfield 54, 3) := by decide +kernel
theorem d_Sq_blank_25 : decode prog_1_method_7_code 25 = .ok (.iload_n 1, 1) := by decide +kernel
theorem d_Sq_blank_26 : decode prog_1_method_7_code 26 = .ok (.invokestatic 152, 3) := by decide +kernel
theorem d_Sq_blank_29 : decode prog_1_method_7_code 29 = .ok (.invokevirtual 157, 3) := by decide +kernel
theorem d_Sq_blank_32 : decode prog_1_method_7_code 32 = .ok (.aload_n 0, 1) := by decide +kernel
theorem d_Sq_blank_33 : decode prog_1_method_7_code 33 = .ok (.iconst 0, 1) := by decide +kernel
theorem d_Sq_blank_34 : decode prog_1_method_7_code 34 = .ok (.putfield 146, 3) := by decide +kernel
theorem d_Sq_blank_37 : decode prog_1_method_7_code 37 = .ok (.aload_n 0, 1) := by decide +kernel
theorem d_Sq_blank_38 : decode prog_1_method_7_code 38 = .ok (.getfield 54, 3) := by decide +kernel
theorem d_Sq_blank_41 : decode prog_1_method_7_code 41 = .ok (.invokevirtual 159, 3) := by decide +kernel
theorem d_Sq_blank_44 : decode prog_1_method_7_code 44 = .ok (.ireturn, 1) := by decide +kernel
theorem d_Sq_told_0 : decode prog_1_method_8_code 0 = .ok (.iload_n 1, 1) := by decide +kernel
theorem d_Sq_told_1 : decode prog_1_method_8_code 1 = .ok (.ifCond .lt 8, 3) := by decide +kernel
theorem d_Sq_told_4 : decode prog_1_method_8_code 4 = .ok (.iload_n 1, 1) := by decide +kernel
theorem d_Sq_told_5 : decode prog_1_method_8_code 5 = .ok (.iconst 5, 1) := by decide +kernel
theorem d_Sq_told_6 : decode prog_1_method_8_code 6 = .ok (.if_icmp .le 13, 3) := by decide +kernel
theorem d_Sq_told_9 : decode prog_1_method_8_code 9 = .ok (.new 82, 3) := by decide +kernel
theorem d_Sq_told_12 : decode prog_1_method_8_code 12 = .ok (.dup, 1) := by decide +kernel
theorem d_Sq_told_13 : decode prog_1_method_8_code 13 = .ok (.ldc 161, 2) := by decide +kernel
theorem d_Sq_told_15 : decode prog_1_method_8_code 15 = .ok (.invokespecial 86, 3) := by decide +kernel
theorem d_Sq_told_18 : decode prog_1_method_8_code 18 = .ok (.athrow, 1) := by decide +kernel
theorem d_Sq_told_19 : decode prog_1_method_8_code 19 = .ok (.aload_n 0, 1) := by decide +kernel
theorem d_Sq_told_20 : decode prog_1_method_8_code 20 = .ok (.getfield 146, 3) := by decide +kernel
theorem d_Sq_told_23 : decode prog_1_method_8_code 23 = .ok (.ifCond .eq 14, 3) := by decide +kernel
theorem d_Sq_told_26 : decode prog_1_method_8_code 26 = .ok (.aload_n 0, 1) := by decide +kernel
theorem d_Sq_told_27 : decode prog_1_method_8_code 27 = .ok (.getfield 72, 3) := by decide +kernel
theorem d_Sq_told_30 : decode prog_1_method_8_code 30 = .ok (.iload_n 1, 1) := by decide +kernel
theorem d_Sq_told_31 : decode prog_1_method_8_code 31 = .ok (.invokestatic 163, 3) := by decide +kernel
theorem d_Sq_told_34 : decode prog_1_method_8_code 34 = .ok (.goto 4, 3) := by decide +kernel
theorem d_Sq_told_37 : decode prog_1_method_8_code 37 = .ok (.iconst (-1), 1) := by decide +kernel
theorem d_Sq_told_38 : decode prog_1_method_8_code 38 = .ok (.ireturn, 1) := by decide +kernel
theorem d_Sq_segment_0 : decode prog_1_method_9_code 0 = .ok (.iload_n 2, 1) := by decide +kernel
theorem d_Sq_segment_1 : decode prog_1_method_9_code 1 = .ok (.ifCond .lt 8, 3) := by decide +kernel
theorem d_Sq_segment_4 : decode prog_1_method_9_code 4 = .ok (.iload_n 2, 1) := by decide +kernel
theorem d_Sq_segment_5 : decode prog_1_method_9_code 5 = .ok (.iconst 1, 1) := by decide +kernel
theorem d_Sq_segment_6 : decode prog_1_method_9_code 6 = .ok (.if_icmp .le 13, 3) := by decide +kernel
theorem d_Sq_segment_9 : decode prog_1_method_9_code 9 = .ok (.new 82, 3) := by decide +kernel
theorem d_Sq_segment_12 : decode prog_1_method_9_code 12 = .ok (.dup, 1) := by decide +kernel
theorem d_Sq_segment_13 : decode prog_1_method_9_code 13 = .ok (.ldc 167, 2) := by decide +kernel
theorem d_Sq_segment_15 : decode prog_1_method_9_code 15 = .ok (.invokespecial 86, 3) := by decide +kernel
theorem d_Sq_segment_18 : decode prog_1_method_9_code 18 = .ok (.athrow, 1) := by decide +kernel
theorem d_Sq_segment_19 : decode prog_1_method_9_code 19 = .ok (.aload_n 0, 1) := by decide +kernel
theorem d_Sq_segment_20 : decode prog_1_method_9_code 20 = .ok (.getfield 146, 3) := by decide +kernel
theorem d_Sq_segment_23 : decode prog_1_method_9_code 23 = .ok (.ifCond .eq 17, 3) := by decide +kernel
theorem d_Sq_segment_26 : decode prog_1_method_9_code 26 = .ok (.iload_n 1, 1) := by decide +kernel
theorem d_Sq_segment_27 : decode prog_1_method_9_code 27 = .ok (.ifCond .lt 13, 3) := by decide +kernel
theorem d_Sq_segment_30 : decode prog_1_method_9_code 30 = .ok (.iload_n 1, 1) := by decide +kernel
theorem d_Sq_segment_31 : decode prog_1_method_9_code 31 = .ok (.aload_n 0, 1) := by decide +kernel
theorem d_Sq_segment_32 : decode prog_1_method_9_code 32 = .ok (.getfield 72, 3) := by decide +kernel
theorem d_Sq_segment_35 : decode prog_1_method_9_code 35 = .ok (.iconst 4, 1) := by decide +kernel
theorem d_Sq_segment_36 : decode prog_1_method_9_code 36 = .ok (.iaload, 1) := by decide +kernel
theorem d_Sq_segment_37 : decode prog_1_method_9_code 37 = .ok (.if_icmp .lt 5, 3) := by decide +kernel
theorem d_Sq_segment_40 : decode prog_1_method_9_code 40 = .ok (.iconst (-1), 1) := by decide +kernel
theorem d_Sq_segment_41 : decode prog_1_method_9_code 41 = .ok (.ireturn, 1) := by decide +kernel
theorem d_Sq_segment_42 : decode prog_1_method_9_code 42 = .ok (.aload_n 0, 1) := by decide +kernel
theorem d_Sq_segment_43 : decode prog_1_method_9_code 43 = .ok (.getfield 76, 3) := by decide +kernel
theorem d_Sq_segment_46 : decode prog_1_method_9_code 46 = .ok (.iload_n 1, 1) := by decide +kernel
theorem d_Sq_segment_47 : decode prog_1_method_9_code 47 = .ok (.invokestatic 163, 3) := by decide +kernel
theorem d_Sq_segment_50 : decode prog_1_method_9_code 50 = .ok (.istore_n 3, 1) := by decide +kernel
theorem d_Sq_segment_51 : decode prog_1_method_9_code 51 = .ok (.iload_n 2, 1) := by decide +kernel
theorem d_Sq_segment_52 : decode prog_1_method_9_code 52 = .ok (.ifCond .ne 9, 3) := by decide +kernel
theorem d_Sq_segment_55 : decode prog_1_method_9_code 55 = .ok (.iload_n 3, 1) := by decide +kernel
theorem d_Sq_segment_56 : decode prog_1_method_9_code 56 = .ok (.iconst 3, 1) := by decide +kernel
theorem d_Sq_segment_57 : decode prog_1_method_9_code 57 = .ok (.iand, 1) := by decide +kernel
theorem d_Sq_segment_58 : decode prog_1_method_9_code 58 = .ok (.goto 6, 3) := by decide +kernel
theorem d_Sq_segment_61 : decode prog_1_method_9_code 61 = .ok (.iload_n 3, 1) := by decide +kernel
theorem d_Sq_segment_62 : decode prog_1_method_9_code 62 = .ok (.iconst 2, 1) := by decide +kernel
theorem d_Sq_segment_63 : decode prog_1_method_9_code 63 = .ok (.ishr, 1) := by decide +kernel
theorem d_Sq_segment_64 : decode prog_1_method_9_code 64 = .ok (.ireturn, 1) := by decide +kernel
theorem d_Sq_reading_0 : decode prog_1_method_14_code 0 = .ok (.iload_n 1, 1) := by decide +kernel
theorem d_Sq_reading_1 : decode prog_1_method_14_code 1 = .ok (.ifCond .lt 8, 3) := by decide +kernel
theorem d_Sq_reading_4 : decode prog_1_method_14_code 4 = .ok (.iload_n 1, 1) := by decide +kernel
theorem d_Sq_reading_5 : decode prog_1_method_14_code 5 = .ok (.iconst 3, 1) := by decide +kernel
theorem d_Sq_reading_6 : decode prog_1_method_14_code 6 = .ok (.if_icmp .le 13, 3) := by decide +kernel
theorem d_Sq_reading_9 : decode prog_1_method_14_code 9 = .ok (.new 82, 3) := by decide +kernel
theorem d_Sq_reading_12 : decode prog_1_method_14_code 12 = .ok (.dup, 1) := by decide +kernel
theorem d_Sq_reading_13 : decode prog_1_method_14_code 13 = .ok (.ldc 190, 2) := by decide +kernel
theorem d_Sq_reading_15 : decode prog_1_method_14_code 15 = .ok (.invokespecial 86, 3) := by decide +kernel
theorem d_Sq_reading_18 : decode prog_1_method_14_code 18 = .ok (.athrow, 1) := by decide +kernel
theorem d_Sq_reading_19 : decode prog_1_method_14_code 19 = .ok (.aload_n 0, 1) := by decide +kernel
theorem d_Sq_reading_20 : decode prog_1_method_14_code 20 = .ok (.getfield 177, 3) := by decide +kernel
theorem d_Sq_reading_23 : decode prog_1_method_14_code 23 = .ok (.ifCond .eq 14, 3) := by decide +kernel
theorem d_Sq_reading_26 : decode prog_1_method_14_code 26 = .ok (.aload_n 0, 1) := by decide +kernel
theorem d_Sq_reading_27 : decode prog_1_method_14_code 27 = .ok (.getfield 79, 3) := by decide +kernel
theorem d_Sq_reading_30 : decode prog_1_method_14_code 30 = .ok (.iload_n 1, 1) := by decide +kernel
theorem d_Sq_reading_31 : decode prog_1_method_14_code 31 = .ok (.invokestatic 163, 3) := by decide +kernel
theorem d_Sq_reading_34 : decode prog_1_method_14_code 34 = .ok (.goto 4, 3) := by decide +kernel
theorem d_Sq_reading_37 : decode prog_1_method_14_code 37 = .ok (.iconst (-1), 1) := by decide +kernel
theorem d_Sq_reading_38 : decode prog_1_method_14_code 38 = .ok (.ireturn, 1) := by decide +kernel
