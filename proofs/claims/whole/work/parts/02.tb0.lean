theorem tx_in1 {w : Cond} (h : w ∈ tables_1_1) : w ∈ lw_tbl := List.mem_append_right _ (show w ∈ tables_1 from List.mem_append_left _ h)
theorem tx_in2 {w : Cond} (h : w ∈ tables_1_2) : w ∈ lw_tbl := List.mem_append_right _ (show w ∈ tables_1 from List.mem_append_right _ (List.mem_append_left _ h))
theorem tx_in3 {w : Cond} (h : w ∈ tables_1_3) : w ∈ lw_tbl := List.mem_append_right _ (show w ∈ tables_1 from List.mem_append_right _ (List.mem_append_right _ (List.mem_append_left _ h)))
theorem tx_in4 {w : Cond} (h : w ∈ tables_1_4) : w ∈ lw_tbl := List.mem_append_right _ (show w ∈ tables_1 from List.mem_append_right _ (List.mem_append_right _ (List.mem_append_right _ (List.mem_append_left _ h))))
theorem tx_in5 {w : Cond} (h : w ∈ tables_1_5) : w ∈ lw_tbl := List.mem_append_right _ (show w ∈ tables_1 from List.mem_append_right _ (List.mem_append_right _ (List.mem_append_right _ (List.mem_append_right _ (List.mem_append_left _ h)))))
theorem tx_in6 {w : Cond} (h : w ∈ tables_1_6) : w ∈ lw_tbl := List.mem_append_right _ (show w ∈ tables_1 from List.mem_append_right _ (List.mem_append_right _ (List.mem_append_right _ (List.mem_append_right _ (List.mem_append_right _ (List.mem_append_left _ h))))))
theorem tx_in7 {w : Cond} (h : w ∈ tables_1_7) : w ∈ lw_tbl := List.mem_append_right _ (show w ∈ tables_1 from List.mem_append_right _ (List.mem_append_right _ (List.mem_append_right _ (List.mem_append_right _ (List.mem_append_right _ (List.mem_append_right _ (h)))))))
theorem tb_0 : (Jvm.Cond.initialized "SquareSymbolsLaw") ∈ lw_g := lw_g_of (tx_in1 (List.mem_of_getElem? (i := 0) rfl)) rfl
theorem tb_1 : (Jvm.Cond.initialized "SquareSymbols") ∈ lw_g := lw_g_of (tx_in1 (List.mem_of_getElem? (i := 1) rfl)) rfl
theorem tb_2 : (Jvm.Cond.initialized "SquareSymbols$Field") ∈ lw_g := lw_g_of (tx_in1 (List.mem_of_getElem? (i := 2) rfl)) rfl
theorem tb_3 : (Jvm.Cond.initialized "SquareSymbols$Data") ∈ lw_g := lw_g_of (tx_in1 (List.mem_of_getElem? (i := 3) rfl)) rfl
theorem tb_4 : (Jvm.Cond.initialized "SquareSymbols$Division") ∈ lw_g := lw_g_of (tx_in1 (List.mem_of_getElem? (i := 4) rfl)) rfl
theorem tb_5 : (Jvm.Cond.initialized "SquareSymbols$Codewords") ∈ lw_g := lw_g_of (tx_in1 (List.mem_of_getElem? (i := 5) rfl)) rfl
theorem tb_6 : (Jvm.Cond.initialized "SquareSymbols$Mender") ∈ lw_g := lw_g_of (tx_in1 (List.mem_of_getElem? (i := 6) rfl)) rfl
theorem tb_7 : (Jvm.Cond.initialized "SquareSymbols$Parser") ∈ lw_g := lw_g_of (tx_in1 (List.mem_of_getElem? (i := 7) rfl)) rfl
theorem tb_8 : (Jvm.Cond.initialized "SquareSymbols$Grid") ∈ lw_g := lw_g_of (tx_in1 (List.mem_of_getElem? (i := 8) rfl)) rfl
theorem tb_9 : (Jvm.Cond.initialized "SquareSymbols$Frame") ∈ lw_g := lw_g_of (tx_in1 (List.mem_of_getElem? (i := 9) rfl)) rfl
theorem tb_10 : (Jvm.Cond.initialized "SquareSymbols$Penalty") ∈ lw_g := lw_g_of (tx_in1 (List.mem_of_getElem? (i := 10) rfl)) rfl
theorem tb_11 : (Jvm.Cond.initialized "SquareSymbolsModel") ∈ lw_g := lw_g_of (tx_in1 (List.mem_of_getElem? (i := 11) rfl)) rfl
theorem tb_12 : (Jvm.Cond.initialized "java/lang/Throwable") ∈ lw_g := lw_g_of (tx_in1 (List.mem_of_getElem? (i := 12) rfl)) rfl
theorem tb_13 : (Jvm.Cond.initialized "java/lang/Exception") ∈ lw_g := lw_g_of (tx_in1 (List.mem_of_getElem? (i := 13) rfl)) rfl
theorem tb_14 : (Jvm.Cond.initialized "java/lang/RuntimeException") ∈ lw_g := lw_g_of (tx_in1 (List.mem_of_getElem? (i := 14) rfl)) rfl
theorem tb_15 : (Jvm.Cond.initialized "java/lang/IllegalArgumentException") ∈ lw_g := lw_g_of (tx_in1 (List.mem_of_getElem? (i := 15) rfl)) rfl
theorem tb_16 : (Jvm.Cond.initialized "SquareSymbols$Version") ∈ lw_g := lw_g_of (tx_in1 (List.mem_of_getElem? (i := 16) rfl)) rfl
theorem tb_17 : (Jvm.Cond.initialized "java/lang/Math") ∈ lw_g := lw_g_of (tx_in1 (List.mem_of_getElem? (i := 17) rfl)) rfl
theorem tb_18 : (Jvm.Cond.initialized "java/util/Arrays") ∈ lw_g := lw_g_of (tx_in1 (List.mem_of_getElem? (i := 18) rfl)) rfl
theorem tb_19 : (Jvm.Cond.initialized "SquareSymbols$Mode") ∈ lw_g := lw_g_of (tx_in1 (List.mem_of_getElem? (i := 19) rfl)) rfl
theorem tb_20 : (Jvm.Cond.initialized "java/lang/String") ∈ lw_g := lw_g_of (tx_in1 (List.mem_of_getElem? (i := 20) rfl)) rfl
theorem tb_21 : (Jvm.Cond.initialized "java/lang/StringLatin1") ∈ lw_g := lw_g_of (tx_in1 (List.mem_of_getElem? (i := 21) rfl)) rfl
theorem tb_22 : (Jvm.Cond.initialized "java/lang/StringUTF16") ∈ lw_g := lw_g_of (tx_in1 (List.mem_of_getElem? (i := 22) rfl)) rfl
theorem tb_23 : (Jvm.Cond.initialized "jdk/internal/util/Preconditions") ∈ lw_g := lw_g_of (tx_in1 (List.mem_of_getElem? (i := 23) rfl)) rfl
theorem tb_24 : (Jvm.Cond.initialized "java/lang/Character") ∈ lw_g := lw_g_of (tx_in1 (List.mem_of_getElem? (i := 24) rfl)) rfl
theorem tb_25 : (Jvm.Cond.initialized "java/lang/System") ∈ lw_g := lw_g_of (tx_in1 (List.mem_of_getElem? (i := 25) rfl)) rfl
theorem tb_26 : (Jvm.Cond.initialized "java/lang/Long") ∈ lw_g := lw_g_of (tx_in1 (List.mem_of_getElem? (i := 26) rfl)) rfl
theorem tb_27 : (Jvm.Cond.initialized "java/lang/Integer") ∈ lw_g := lw_g_of (tx_in1 (List.mem_of_getElem? (i := 27) rfl)) rfl
theorem tb_28 : (Jvm.Cond.classLink "SquareSymbolsLaw" (8 : Nat) "SquareSymbols") ∈ lw_g := lw_g_of (tx_in1 (List.mem_of_getElem? (i := 28) rfl)) rfl
theorem tb_29 : (Jvm.Cond.instantiable "SquareSymbols" (14 : Nat)) ∈ lw_g := lw_g_of (tx_in1 (List.mem_of_getElem? (i := 29) rfl)) rfl
theorem tb_30 : (Jvm.Cond.methodLink "SquareSymbolsLaw" (36 : Nat) ({ cls := "SquareSymbols", name := "<init>", desc := "()V" } : Jvm.MethodName)) ∈ lw_g := lw_g_of (tx_in1 (List.mem_of_getElem? (i := 30) rfl)) rfl
theorem tb_31 : (Jvm.Cond.instanceMethod ({ cls := "SquareSymbols", name := "<init>", desc := "()V" } : Jvm.MethodName)) ∈ lw_g := lw_g_of (tx_in1 (List.mem_of_getElem? (i := 31) rfl)) rfl
theorem tb_32 : (Jvm.Cond.code ({ cls := "SquareSymbols", name := "<init>", desc := "()V" } : Jvm.MethodName) prog_1_method_1_code (2 : Nat) (Option.none : Option Jvm.ClassFile.FieldType)) ∈ lw_g := lw_g_of (tx_in1 (List.mem_of_getElem? (i := 32) rfl)) rfl
theorem tb_33 : (Jvm.Cond.methodLink "SquareSymbols" (1 : Nat) ({ cls := "java/lang/Object", name := "<init>", desc := "()V" } : Jvm.MethodName)) ∈ lw_g := lw_g_of (tx_in1 (List.mem_of_getElem? (i := 33) rfl)) rfl
theorem tb_34 : (Jvm.Cond.instanceMethod ({ cls := "java/lang/Object", name := "<init>", desc := "()V" } : Jvm.MethodName)) ∈ lw_g := lw_g_of (tx_in1 (List.mem_of_getElem? (i := 34) rfl)) rfl
theorem tb_35 : (Jvm.Cond.code ({ cls := "java/lang/Object", name := "<init>", desc := "()V" } : Jvm.MethodName) object_method_1_code (1 : Nat) (Option.none : Option Jvm.ClassFile.FieldType)) ∈ lw_g := lw_g_of (tx_in1 (List.mem_of_getElem? (i := 35) rfl)) rfl
theorem tb_36 : (Jvm.Cond.classLink "SquareSymbols" (7 : Nat) "SquareSymbols$Field") ∈ lw_g := lw_g_of (tx_in1 (List.mem_of_getElem? (i := 36) rfl)) rfl
theorem tb_37 : (Jvm.Cond.instantiable "SquareSymbols$Field" (2 : Nat)) ∈ lw_g := lw_g_of (tx_in1 (List.mem_of_getElem? (i := 37) rfl)) rfl
theorem tb_38 : (Jvm.Cond.methodLink "SquareSymbols" (9 : Nat) ({ cls := "SquareSymbols$Field", name := "<init>", desc := "()V" } : Jvm.MethodName)) ∈ lw_g := lw_g_of (tx_in1 (List.mem_of_getElem? (i := 38) rfl)) rfl
theorem tb_39 : (Jvm.Cond.instanceMethod ({ cls := "SquareSymbols$Field", name := "<init>", desc := "()V" } : Jvm.MethodName)) ∈ lw_g := lw_g_of (tx_in1 (List.mem_of_getElem? (i := 39) rfl)) rfl
theorem tb_40 : (Jvm.Cond.code ({ cls := "SquareSymbols$Field", name := "<init>", desc := "()V" } : Jvm.MethodName) prog_5_method_1_code (3 : Nat) (Option.none : Option Jvm.ClassFile.FieldType)) ∈ lw_g := lw_g_of (tx_in1 (List.mem_of_getElem? (i := 40) rfl)) rfl
theorem tb_41 : (Jvm.Cond.methodLink "SquareSymbols$Field" (1 : Nat) ({ cls := "java/lang/Object", name := "<init>", desc := "()V" } : Jvm.MethodName)) ∈ lw_g := lw_g_of (tx_in1 (List.mem_of_getElem? (i := 41) rfl)) rfl
theorem tb_42 : (Jvm.Cond.fieldLink "SquareSymbols$Field" (7 : Nat) "SquareSymbols$Field" "powers" "[I") ∈ lw_g := lw_g_of (tx_in1 (List.mem_of_getElem? (i := 42) rfl)) rfl
theorem tb_43 : (Jvm.Cond.fieldLink "SquareSymbols$Field" (13 : Nat) "SquareSymbols$Field" "logs" "[I") ∈ lw_g := lw_g_of (tx_in1 (List.mem_of_getElem? (i := 43) rfl)) rfl
theorem tb_44 : (Jvm.Cond.laysFinal "SquareSymbols$Field" "SquareSymbols$Field" "powers" "[I") ∈ lw_g := lw_g_of (tx_in1 (List.mem_of_getElem? (i := 44) rfl)) rfl
theorem tb_45 : (Jvm.Cond.soleField "SquareSymbols$Field" "powers") ∈ lw_g := lw_g_of (tx_in1 (List.mem_of_getElem? (i := 45) rfl)) rfl
theorem tb_46 : (Jvm.Cond.laysFinal "SquareSymbols$Field" "SquareSymbols$Field" "logs" "[I") ∈ lw_g := lw_g_of (tx_in1 (List.mem_of_getElem? (i := 46) rfl)) rfl
theorem tb_47 : (Jvm.Cond.soleField "SquareSymbols$Field" "logs") ∈ lw_g := lw_g_of (tx_in1 (List.mem_of_getElem? (i := 47) rfl)) rfl
theorem tb_48 : (Jvm.Cond.superclass "SquareSymbols$Field" "java/lang/Object") ∈ lw_g := lw_g_of (tx_in1 (List.mem_of_getElem? (i := 48) rfl)) rfl
theorem tb_49 : (Jvm.Cond.arrayClass Jvm.ClassFile.FieldType.int) ∈ lw_g := lw_g_of (tx_in1 (List.mem_of_getElem? (i := 49) rfl)) rfl
theorem tb_50 : (Jvm.Cond.classLink "SquareSymbols" (10 : Nat) "SquareSymbols$Data") ∈ lw_g := lw_g_of (tx_in1 (List.mem_of_getElem? (i := 50) rfl)) rfl
theorem tb_51 : (Jvm.Cond.instantiable "SquareSymbols$Data" (2 : Nat)) ∈ lw_g := lw_g_of (tx_in1 (List.mem_of_getElem? (i := 51) rfl)) rfl
theorem tx_52 : (Jvm.Cond.methodLinkNest "SquareSymbols" (12 : Nat) ({ cls := "SquareSymbols$Data", name := "<init>", desc := "()V" } : Jvm.MethodName) "SquareSymbols") ∈ lw_tbl := tx_in1 (List.mem_of_getElem? (i := 52) rfl)
theorem tb_53 : (Jvm.Cond.instanceMethod ({ cls := "SquareSymbols$Data", name := "<init>", desc := "()V" } : Jvm.MethodName)) ∈ lw_g := lw_g_of (tx_in1 (List.mem_of_getElem? (i := 53) rfl)) rfl
theorem tb_54 : (Jvm.Cond.code ({ cls := "SquareSymbols$Data", name := "<init>", desc := "()V" } : Jvm.MethodName) prog_3_method_1_code (1 : Nat) (Option.none : Option Jvm.ClassFile.FieldType)) ∈ lw_g := lw_g_of (tx_in1 (List.mem_of_getElem? (i := 54) rfl)) rfl
theorem tb_55 : (Jvm.Cond.methodLink "SquareSymbols$Data" (3 : Nat) ({ cls := "java/lang/Object", name := "<init>", desc := "()V" } : Jvm.MethodName)) ∈ lw_g := lw_g_of (tx_in1 (List.mem_of_getElem? (i := 55) rfl)) rfl
theorem tb_56 : (Jvm.Cond.fieldLink "SquareSymbols$Data" (9 : Nat) "SquareSymbols$Data" "bytes" "[B") ∈ lw_g := lw_g_of (tx_in1 (List.mem_of_getElem? (i := 56) rfl)) rfl
theorem tb_57 : (Jvm.Cond.fieldLink "SquareSymbols$Data" (15 : Nat) "SquareSymbols$Data" "size" "I") ∈ lw_g := lw_g_of (tx_in1 (List.mem_of_getElem? (i := 57) rfl)) rfl
theorem tb_58 : (Jvm.Cond.laysFinal "SquareSymbols$Data" "SquareSymbols$Data" "bytes" "[B") ∈ lw_g := lw_g_of (tx_in1 (List.mem_of_getElem? (i := 58) rfl)) rfl
theorem tb_59 : (Jvm.Cond.soleField "SquareSymbols$Data" "bytes") ∈ lw_g := lw_g_of (tx_in1 (List.mem_of_getElem? (i := 59) rfl)) rfl
theorem tb_60 : (Jvm.Cond.lays "SquareSymbols$Data" "SquareSymbols$Data" "size" "I") ∈ lw_g := lw_g_of (tx_in1 (List.mem_of_getElem? (i := 60) rfl)) rfl
theorem tb_61 : (Jvm.Cond.soleField "SquareSymbols$Data" "size") ∈ lw_g := lw_g_of (tx_in1 (List.mem_of_getElem? (i := 61) rfl)) rfl
theorem tb_62 : (Jvm.Cond.superclass "SquareSymbols$Data" "java/lang/Object") ∈ lw_g := lw_g_of (tx_in1 (List.mem_of_getElem? (i := 62) rfl)) rfl
theorem tb_63 : (Jvm.Cond.arrayClass Jvm.ClassFile.FieldType.byte) ∈ lw_g := lw_g_of (tx_in1 (List.mem_of_getElem? (i := 63) rfl)) rfl
theorem tb_64 : (Jvm.Cond.classLink "SquareSymbols" (19 : Nat) "SquareSymbols$Division") ∈ lw_g := lw_g_of (tx_in1 (List.mem_of_getElem? (i := 64) rfl)) rfl
theorem tb_65 : (Jvm.Cond.instantiable "SquareSymbols$Division" (9 : Nat)) ∈ lw_g := lw_g_of (tx_in1 (List.mem_of_getElem? (i := 65) rfl)) rfl
theorem tx_66 : (Jvm.Cond.methodLinkNest "SquareSymbols" (21 : Nat) ({ cls := "SquareSymbols$Division", name := "<init>", desc := "()V" } : Jvm.MethodName) "SquareSymbols") ∈ lw_tbl := tx_in1 (List.mem_of_getElem? (i := 66) rfl)
theorem tb_67 : (Jvm.Cond.instanceMethod ({ cls := "SquareSymbols$Division", name := "<init>", desc := "()V" } : Jvm.MethodName)) ∈ lw_g := lw_g_of (tx_in1 (List.mem_of_getElem? (i := 67) rfl)) rfl
theorem tb_68 : (Jvm.Cond.code ({ cls := "SquareSymbols$Division", name := "<init>", desc := "()V" } : Jvm.MethodName) prog_4_method_1_code (1 : Nat) (Option.none : Option Jvm.ClassFile.FieldType)) ∈ lw_g := lw_g_of (tx_in1 (List.mem_of_getElem? (i := 68) rfl)) rfl
theorem tb_69 : (Jvm.Cond.methodLink "SquareSymbols$Division" (3 : Nat) ({ cls := "java/lang/Object", name := "<init>", desc := "()V" } : Jvm.MethodName)) ∈ lw_g := lw_g_of (tx_in1 (List.mem_of_getElem? (i := 69) rfl)) rfl
theorem tb_70 : (Jvm.Cond.fieldLink "SquareSymbols$Division" (9 : Nat) "SquareSymbols$Division" "choices" "[I") ∈ lw_g := lw_g_of (tx_in1 (List.mem_of_getElem? (i := 70) rfl)) rfl
theorem tb_71 : (Jvm.Cond.fieldLink "SquareSymbols$Division" (15 : Nat) "SquareSymbols$Division" "bitsBehind" "[I") ∈ lw_g := lw_g_of (tx_in1 (List.mem_of_getElem? (i := 71) rfl)) rfl
theorem tb_72 : (Jvm.Cond.fieldLink "SquareSymbols$Division" (18 : Nat) "SquareSymbols$Division" "bitsHere" "[I") ∈ lw_g := lw_g_of (tx_in1 (List.mem_of_getElem? (i := 72) rfl)) rfl
theorem tb_73 : (Jvm.Cond.fieldLink "SquareSymbols$Division" (21 : Nat) "SquareSymbols$Division" "freshBits" "[I") ∈ lw_g := lw_g_of (tx_in1 (List.mem_of_getElem? (i := 73) rfl)) rfl
theorem tb_74 : (Jvm.Cond.fieldLink "SquareSymbols$Division" (36 : Nat) "SquareSymbols$Division" "size" "I") ∈ lw_g := lw_g_of (tx_in1 (List.mem_of_getElem? (i := 74) rfl)) rfl
theorem tb_75 : (Jvm.Cond.fieldLink "SquareSymbols$Division" (104 : Nat) "SquareSymbols$Division" "from" "I") ∈ lw_g := lw_g_of (tx_in1 (List.mem_of_getElem? (i := 75) rfl)) rfl
theorem tb_76 : (Jvm.Cond.fieldLink "SquareSymbols$Division" (107 : Nat) "SquareSymbols$Division" "next" "I") ∈ lw_g := lw_g_of (tx_in1 (List.mem_of_getElem? (i := 76) rfl)) rfl
theorem tb_77 : (Jvm.Cond.fieldLink "SquareSymbols$Division" (101 : Nat) "SquareSymbols$Division" "mode" "I") ∈ lw_g := lw_g_of (tx_in1 (List.mem_of_getElem? (i := 77) rfl)) rfl
theorem tb_78 : (Jvm.Cond.fieldLink "SquareSymbols$Division" (110 : Nat) "SquareSymbols$Division" "state" "I") ∈ lw_g := lw_g_of (tx_in1 (List.mem_of_getElem? (i := 78) rfl)) rfl
theorem tb_79 : (Jvm.Cond.laysFinal "SquareSymbols$Division" "SquareSymbols$Division" "choices" "[I") ∈ lw_g := lw_g_of (tx_in1 (List.mem_of_getElem? (i := 79) rfl)) rfl
theorem tb_80 : (Jvm.Cond.soleField "SquareSymbols$Division" "choices") ∈ lw_g := lw_g_of (tx_in1 (List.mem_of_getElem? (i := 80) rfl)) rfl
theorem tb_81 : (Jvm.Cond.laysFinal "SquareSymbols$Division" "SquareSymbols$Division" "bitsBehind" "[I") ∈ lw_g := lw_g_of (tx_in1 (List.mem_of_getElem? (i := 81) rfl)) rfl
theorem tb_82 : (Jvm.Cond.soleField "SquareSymbols$Division" "bitsBehind") ∈ lw_g := lw_g_of (tx_in1 (List.mem_of_getElem? (i := 82) rfl)) rfl
theorem tb_83 : (Jvm.Cond.laysFinal "SquareSymbols$Division" "SquareSymbols$Division" "bitsHere" "[I") ∈ lw_g := lw_g_of (tx_in1 (List.mem_of_getElem? (i := 83) rfl)) rfl
theorem tb_84 : (Jvm.Cond.soleField "SquareSymbols$Division" "bitsHere") ∈ lw_g := lw_g_of (tx_in1 (List.mem_of_getElem? (i := 84) rfl)) rfl
theorem tb_85 : (Jvm.Cond.laysFinal "SquareSymbols$Division" "SquareSymbols$Division" "freshBits" "[I") ∈ lw_g := lw_g_of (tx_in1 (List.mem_of_getElem? (i := 85) rfl)) rfl
theorem tb_86 : (Jvm.Cond.soleField "SquareSymbols$Division" "freshBits") ∈ lw_g := lw_g_of (tx_in1 (List.mem_of_getElem? (i := 86) rfl)) rfl
theorem tb_87 : (Jvm.Cond.lays "SquareSymbols$Division" "SquareSymbols$Division" "size" "I") ∈ lw_g := lw_g_of (tx_in1 (List.mem_of_getElem? (i := 87) rfl)) rfl
theorem tb_88 : (Jvm.Cond.soleField "SquareSymbols$Division" "size") ∈ lw_g := lw_g_of (tx_in1 (List.mem_of_getElem? (i := 88) rfl)) rfl
theorem tb_89 : (Jvm.Cond.lays "SquareSymbols$Division" "SquareSymbols$Division" "from" "I") ∈ lw_g := lw_g_of (tx_in1 (List.mem_of_getElem? (i := 89) rfl)) rfl
theorem tb_90 : (Jvm.Cond.soleField "SquareSymbols$Division" "from") ∈ lw_g := lw_g_of (tx_in1 (List.mem_of_getElem? (i := 90) rfl)) rfl
theorem tb_91 : (Jvm.Cond.lays "SquareSymbols$Division" "SquareSymbols$Division" "next" "I") ∈ lw_g := lw_g_of (tx_in1 (List.mem_of_getElem? (i := 91) rfl)) rfl
theorem tb_92 : (Jvm.Cond.soleField "SquareSymbols$Division" "next") ∈ lw_g := lw_g_of (tx_in1 (List.mem_of_getElem? (i := 92) rfl)) rfl
theorem tb_93 : (Jvm.Cond.lays "SquareSymbols$Division" "SquareSymbols$Division" "mode" "I") ∈ lw_g := lw_g_of (tx_in1 (List.mem_of_getElem? (i := 93) rfl)) rfl
theorem tb_94 : (Jvm.Cond.soleField "SquareSymbols$Division" "mode") ∈ lw_g := lw_g_of (tx_in1 (List.mem_of_getElem? (i := 94) rfl)) rfl
theorem tb_95 : (Jvm.Cond.lays "SquareSymbols$Division" "SquareSymbols$Division" "state" "I") ∈ lw_g := lw_g_of (tx_in1 (List.mem_of_getElem? (i := 95) rfl)) rfl
theorem tb_96 : (Jvm.Cond.soleField "SquareSymbols$Division" "state") ∈ lw_g := lw_g_of (tx_in1 (List.mem_of_getElem? (i := 96) rfl)) rfl
theorem tb_97 : (Jvm.Cond.superclass "SquareSymbols$Division" "java/lang/Object") ∈ lw_g := lw_g_of (tx_in1 (List.mem_of_getElem? (i := 97) rfl)) rfl
theorem tb_98 : (Jvm.Cond.classLink "SquareSymbols" (26 : Nat) "SquareSymbols$Codewords") ∈ lw_g := lw_g_of (tx_in1 (List.mem_of_getElem? (i := 98) rfl)) rfl
theorem tb_99 : (Jvm.Cond.instantiable "SquareSymbols$Codewords" (14 : Nat)) ∈ lw_g := lw_g_of (tx_in1 (List.mem_of_getElem? (i := 99) rfl)) rfl
theorem tb_100 : (Jvm.Cond.methodLink "SquareSymbols" (28 : Nat) ({ cls := "SquareSymbols$Codewords", name := "<init>", desc := "(LSquareSymbols$Field;)V" } : Jvm.MethodName)) ∈ lw_g := lw_g_of (tx_in1 (List.mem_of_getElem? (i := 100) rfl)) rfl
theorem tb_101 : (Jvm.Cond.instanceMethod ({ cls := "SquareSymbols$Codewords", name := "<init>", desc := "(LSquareSymbols$Field;)V" } : Jvm.MethodName)) ∈ lw_g := lw_g_of (tx_in1 (List.mem_of_getElem? (i := 101) rfl)) rfl
theorem tb_102 : (Jvm.Cond.code ({ cls := "SquareSymbols$Codewords", name := "<init>", desc := "(LSquareSymbols$Field;)V" } : Jvm.MethodName) prog_2_method_1_code (2 : Nat) (Option.none : Option Jvm.ClassFile.FieldType)) ∈ lw_g := lw_g_of (tx_in1 (List.mem_of_getElem? (i := 102) rfl)) rfl
theorem tb_103 : (Jvm.Cond.methodLink "SquareSymbols$Codewords" (1 : Nat) ({ cls := "java/lang/Object", name := "<init>", desc := "()V" } : Jvm.MethodName)) ∈ lw_g := lw_g_of (tx_in1 (List.mem_of_getElem? (i := 103) rfl)) rfl
theorem tb_104 : (Jvm.Cond.fieldLink "SquareSymbols$Codewords" (24 : Nat) "SquareSymbols$Codewords" "field" "LSquareSymbols$Field;") ∈ lw_g := lw_g_of (tx_in1 (List.mem_of_getElem? (i := 104) rfl)) rfl
theorem tb_105 : (Jvm.Cond.fieldLink "SquareSymbols$Codewords" (9 : Nat) "SquareSymbols$Codewords" "bytes" "[B") ∈ lw_g := lw_g_of (tx_in1 (List.mem_of_getElem? (i := 105) rfl)) rfl
theorem tb_106 : (Jvm.Cond.fieldLink "SquareSymbols$Codewords" (13 : Nat) "SquareSymbols$Codewords" "generator" "[I") ∈ lw_g := lw_g_of (tx_in1 (List.mem_of_getElem? (i := 106) rfl)) rfl
theorem tb_107 : (Jvm.Cond.fieldLink "SquareSymbols$Codewords" (17 : Nat) "SquareSymbols$Codewords" "rest" "[I") ∈ lw_g := lw_g_of (tx_in1 (List.mem_of_getElem? (i := 107) rfl)) rfl
theorem tb_108 : (Jvm.Cond.fieldLink "SquareSymbols$Codewords" (28 : Nat) "SquareSymbols$Codewords" "version" "I") ∈ lw_g := lw_g_of (tx_in1 (List.mem_of_getElem? (i := 108) rfl)) rfl
theorem tb_109 : (Jvm.Cond.fieldLink "SquareSymbols$Codewords" (37 : Nat) "SquareSymbols$Codewords" "total" "I") ∈ lw_g := lw_g_of (tx_in1 (List.mem_of_getElem? (i := 109) rfl)) rfl
theorem tb_110 : (Jvm.Cond.fieldLink "SquareSymbols$Codewords" (44 : Nat) "SquareSymbols$Codewords" "holds" "I") ∈ lw_g := lw_g_of (tx_in1 (List.mem_of_getElem? (i := 110) rfl)) rfl
theorem tb_111 : (Jvm.Cond.fieldLink "SquareSymbols$Codewords" (20 : Nat) "SquareSymbols$Codewords" "blocks" "I") ∈ lw_g := lw_g_of (tx_in1 (List.mem_of_getElem? (i := 111) rfl)) rfl
theorem tb_112 : (Jvm.Cond.fieldLink "SquareSymbols$Codewords" (59 : Nat) "SquareSymbols$Codewords" "checks" "I") ∈ lw_g := lw_g_of (tx_in1 (List.mem_of_getElem? (i := 112) rfl)) rfl
theorem tb_113 : (Jvm.Cond.fieldLink "SquareSymbols$Codewords" (61 : Nat) "SquareSymbols$Codewords" "shortLength" "I") ∈ lw_g := lw_g_of (tx_in1 (List.mem_of_getElem? (i := 113) rfl)) rfl
theorem tb_114 : (Jvm.Cond.fieldLink "SquareSymbols$Codewords" (64 : Nat) "SquareSymbols$Codewords" "shortBlocks" "I") ∈ lw_g := lw_g_of (tx_in1 (List.mem_of_getElem? (i := 114) rfl)) rfl
theorem tb_115 : (Jvm.Cond.fieldLink "SquareSymbols$Codewords" (67 : Nat) "SquareSymbols$Codewords" "filled" "I") ∈ lw_g := lw_g_of (tx_in1 (List.mem_of_getElem? (i := 115) rfl)) rfl
theorem tb_116 : (Jvm.Cond.fieldLink "SquareSymbols$Codewords" (70 : Nat) "SquareSymbols$Codewords" "waiting" "I") ∈ lw_g := lw_g_of (tx_in1 (List.mem_of_getElem? (i := 116) rfl)) rfl
theorem tb_117 : (Jvm.Cond.fieldLink "SquareSymbols$Codewords" (73 : Nat) "SquareSymbols$Codewords" "waitingBits" "I") ∈ lw_g := lw_g_of (tx_in1 (List.mem_of_getElem? (i := 117) rfl)) rfl
theorem tb_118 : (Jvm.Cond.laysFinal "SquareSymbols$Codewords" "SquareSymbols$Codewords" "field" "LSquareSymbols$Field;") ∈ lw_g := lw_g_of (tx_in1 (List.mem_of_getElem? (i := 118) rfl)) rfl
theorem tb_119 : (Jvm.Cond.soleField "SquareSymbols$Codewords" "field") ∈ lw_g := lw_g_of (tx_in1 (List.mem_of_getElem? (i := 119) rfl)) rfl
theorem tb_120 : (Jvm.Cond.laysFinal "SquareSymbols$Codewords" "SquareSymbols$Codewords" "bytes" "[B") ∈ lw_g := lw_g_of (tx_in1 (List.mem_of_getElem? (i := 120) rfl)) rfl
theorem tb_121 : (Jvm.Cond.soleField "SquareSymbols$Codewords" "bytes") ∈ lw_g := lw_g_of (tx_in1 (List.mem_of_getElem? (i := 121) rfl)) rfl
theorem tb_122 : (Jvm.Cond.laysFinal "SquareSymbols$Codewords" "SquareSymbols$Codewords" "generator" "[I") ∈ lw_g := lw_g_of (tx_in1 (List.mem_of_getElem? (i := 122) rfl)) rfl
theorem tb_123 : (Jvm.Cond.soleField "SquareSymbols$Codewords" "generator") ∈ lw_g := lw_g_of (tx_in1 (List.mem_of_getElem? (i := 123) rfl)) rfl
theorem tb_124 : (Jvm.Cond.laysFinal "SquareSymbols$Codewords" "SquareSymbols$Codewords" "rest" "[I") ∈ lw_g := lw_g_of (tx_in1 (List.mem_of_getElem? (i := 124) rfl)) rfl
theorem tb_125 : (Jvm.Cond.soleField "SquareSymbols$Codewords" "rest") ∈ lw_g := lw_g_of (tx_in1 (List.mem_of_getElem? (i := 125) rfl)) rfl
theorem tb_126 : (Jvm.Cond.lays "SquareSymbols$Codewords" "SquareSymbols$Codewords" "version" "I") ∈ lw_g := lw_g_of (tx_in1 (List.mem_of_getElem? (i := 126) rfl)) rfl
theorem tb_127 : (Jvm.Cond.soleField "SquareSymbols$Codewords" "version") ∈ lw_g := lw_g_of (tx_in1 (List.mem_of_getElem? (i := 127) rfl)) rfl
theorem tb_128 : (Jvm.Cond.lays "SquareSymbols$Codewords" "SquareSymbols$Codewords" "total" "I") ∈ lw_g := lw_g_of (tx_in1 (List.mem_of_getElem? (i := 128) rfl)) rfl
theorem tb_129 : (Jvm.Cond.soleField "SquareSymbols$Codewords" "total") ∈ lw_g := lw_g_of (tx_in1 (List.mem_of_getElem? (i := 129) rfl)) rfl
theorem tb_130 : (Jvm.Cond.lays "SquareSymbols$Codewords" "SquareSymbols$Codewords" "holds" "I") ∈ lw_g := lw_g_of (tx_in1 (List.mem_of_getElem? (i := 130) rfl)) rfl
theorem tb_131 : (Jvm.Cond.soleField "SquareSymbols$Codewords" "holds") ∈ lw_g := lw_g_of (tx_in1 (List.mem_of_getElem? (i := 131) rfl)) rfl
theorem tb_132 : (Jvm.Cond.lays "SquareSymbols$Codewords" "SquareSymbols$Codewords" "blocks" "I") ∈ lw_g := lw_g_of (tx_in1 (List.mem_of_getElem? (i := 132) rfl)) rfl
theorem tb_133 : (Jvm.Cond.soleField "SquareSymbols$Codewords" "blocks") ∈ lw_g := lw_g_of (tx_in1 (List.mem_of_getElem? (i := 133) rfl)) rfl
theorem tb_134 : (Jvm.Cond.lays "SquareSymbols$Codewords" "SquareSymbols$Codewords" "checks" "I") ∈ lw_g := lw_g_of (tx_in1 (List.mem_of_getElem? (i := 134) rfl)) rfl
theorem tb_135 : (Jvm.Cond.soleField "SquareSymbols$Codewords" "checks") ∈ lw_g := lw_g_of (tx_in1 (List.mem_of_getElem? (i := 135) rfl)) rfl
theorem tb_136 : (Jvm.Cond.lays "SquareSymbols$Codewords" "SquareSymbols$Codewords" "shortLength" "I") ∈ lw_g := lw_g_of (tx_in1 (List.mem_of_getElem? (i := 136) rfl)) rfl
theorem tb_137 : (Jvm.Cond.soleField "SquareSymbols$Codewords" "shortLength") ∈ lw_g := lw_g_of (tx_in1 (List.mem_of_getElem? (i := 137) rfl)) rfl
theorem tb_138 : (Jvm.Cond.lays "SquareSymbols$Codewords" "SquareSymbols$Codewords" "shortBlocks" "I") ∈ lw_g := lw_g_of (tx_in1 (List.mem_of_getElem? (i := 138) rfl)) rfl
theorem tb_139 : (Jvm.Cond.soleField "SquareSymbols$Codewords" "shortBlocks") ∈ lw_g := lw_g_of (tx_in1 (List.mem_of_getElem? (i := 139) rfl)) rfl
theorem tb_140 : (Jvm.Cond.lays "SquareSymbols$Codewords" "SquareSymbols$Codewords" "filled" "I") ∈ lw_g := lw_g_of (tx_in1 (List.mem_of_getElem? (i := 140) rfl)) rfl
theorem tb_141 : (Jvm.Cond.soleField "SquareSymbols$Codewords" "filled") ∈ lw_g := lw_g_of (tx_in1 (List.mem_of_getElem? (i := 141) rfl)) rfl
theorem tb_142 : (Jvm.Cond.lays "SquareSymbols$Codewords" "SquareSymbols$Codewords" "waiting" "I") ∈ lw_g := lw_g_of (tx_in1 (List.mem_of_getElem? (i := 142) rfl)) rfl
theorem tb_143 : (Jvm.Cond.soleField "SquareSymbols$Codewords" "waiting") ∈ lw_g := lw_g_of (tx_in1 (List.mem_of_getElem? (i := 143) rfl)) rfl
theorem tb_144 : (Jvm.Cond.lays "SquareSymbols$Codewords" "SquareSymbols$Codewords" "waitingBits" "I") ∈ lw_g := lw_g_of (tx_in1 (List.mem_of_getElem? (i := 144) rfl)) rfl
theorem tb_145 : (Jvm.Cond.soleField "SquareSymbols$Codewords" "waitingBits") ∈ lw_g := lw_g_of (tx_in1 (List.mem_of_getElem? (i := 145) rfl)) rfl
theorem tb_146 : (Jvm.Cond.superclass "SquareSymbols$Codewords" "java/lang/Object") ∈ lw_g := lw_g_of (tx_in1 (List.mem_of_getElem? (i := 146) rfl)) rfl
theorem tb_147 : (Jvm.Cond.classLink "SquareSymbols" (35 : Nat) "SquareSymbols$Mender") ∈ lw_g := lw_g_of (tx_in1 (List.mem_of_getElem? (i := 147) rfl)) rfl
theorem tb_148 : (Jvm.Cond.instantiable "SquareSymbols$Mender" (8 : Nat)) ∈ lw_g := lw_g_of (tx_in1 (List.mem_of_getElem? (i := 148) rfl)) rfl
theorem tb_149 : (Jvm.Cond.methodLink "SquareSymbols" (37 : Nat) ({ cls := "SquareSymbols$Mender", name := "<init>", desc := "(LSquareSymbols$Field;)V" } : Jvm.MethodName)) ∈ lw_g := lw_g_of (tx_in1 (List.mem_of_getElem? (i := 149) rfl)) rfl
theorem tb_150 : (Jvm.Cond.instanceMethod ({ cls := "SquareSymbols$Mender", name := "<init>", desc := "(LSquareSymbols$Field;)V" } : Jvm.MethodName)) ∈ lw_g := lw_g_of (tx_in1 (List.mem_of_getElem? (i := 150) rfl)) rfl
theorem tb_151 : (Jvm.Cond.code ({ cls := "SquareSymbols$Mender", name := "<init>", desc := "(LSquareSymbols$Field;)V" } : Jvm.MethodName) prog_8_method_1_code (2 : Nat) (Option.none : Option Jvm.ClassFile.FieldType)) ∈ lw_g := lw_g_of (tx_in1 (List.mem_of_getElem? (i := 151) rfl)) rfl
theorem tb_152 : (Jvm.Cond.methodLink "SquareSymbols$Mender" (3 : Nat) ({ cls := "java/lang/Object", name := "<init>", desc := "()V" } : Jvm.MethodName)) ∈ lw_g := lw_g_of (tx_in1 (List.mem_of_getElem? (i := 152) rfl)) rfl
theorem tb_153 : (Jvm.Cond.fieldLink "SquareSymbols$Mender" (33 : Nat) "SquareSymbols$Mender" "field" "LSquareSymbols$Field;") ∈ lw_g := lw_g_of (tx_in1 (List.mem_of_getElem? (i := 153) rfl)) rfl
theorem tb_154 : (Jvm.Cond.fieldLink "SquareSymbols$Mender" (11 : Nat) "SquareSymbols$Mender" "block" "[I") ∈ lw_g := lw_g_of (tx_in1 (List.mem_of_getElem? (i := 154) rfl)) rfl
theorem tb_155 : (Jvm.Cond.fieldLink "SquareSymbols$Mender" (15 : Nat) "SquareSymbols$Mender" "syndromes" "[I") ∈ lw_g := lw_g_of (tx_in1 (List.mem_of_getElem? (i := 155) rfl)) rfl
theorem tb_156 : (Jvm.Cond.fieldLink "SquareSymbols$Mender" (18 : Nat) "SquareSymbols$Mender" "locator" "[I") ∈ lw_g := lw_g_of (tx_in1 (List.mem_of_getElem? (i := 156) rfl)) rfl
theorem tb_157 : (Jvm.Cond.fieldLink "SquareSymbols$Mender" (21 : Nat) "SquareSymbols$Mender" "olderLocator" "[I") ∈ lw_g := lw_g_of (tx_in1 (List.mem_of_getElem? (i := 157) rfl)) rfl
theorem tb_158 : (Jvm.Cond.fieldLink "SquareSymbols$Mender" (24 : Nat) "SquareSymbols$Mender" "keptLocator" "[I") ∈ lw_g := lw_g_of (tx_in1 (List.mem_of_getElem? (i := 158) rfl)) rfl
theorem tb_159 : (Jvm.Cond.fieldLink "SquareSymbols$Mender" (27 : Nat) "SquareSymbols$Mender" "evaluator" "[I") ∈ lw_g := lw_g_of (tx_in1 (List.mem_of_getElem? (i := 159) rfl)) rfl
theorem tb_160 : (Jvm.Cond.fieldLink "SquareSymbols$Mender" (30 : Nat) "SquareSymbols$Mender" "places" "[I") ∈ lw_g := lw_g_of (tx_in1 (List.mem_of_getElem? (i := 160) rfl)) rfl
theorem tb_161 : (Jvm.Cond.laysFinal "SquareSymbols$Mender" "SquareSymbols$Mender" "field" "LSquareSymbols$Field;") ∈ lw_g := lw_g_of (tx_in1 (List.mem_of_getElem? (i := 161) rfl)) rfl
theorem tb_162 : (Jvm.Cond.soleField "SquareSymbols$Mender" "field") ∈ lw_g := lw_g_of (tx_in1 (List.mem_of_getElem? (i := 162) rfl)) rfl
theorem tb_163 : (Jvm.Cond.laysFinal "SquareSymbols$Mender" "SquareSymbols$Mender" "block" "[I") ∈ lw_g := lw_g_of (tx_in1 (List.mem_of_getElem? (i := 163) rfl)) rfl
theorem tb_164 : (Jvm.Cond.soleField "SquareSymbols$Mender" "block") ∈ lw_g := lw_g_of (tx_in1 (List.mem_of_getElem? (i := 164) rfl)) rfl
theorem tb_165 : (Jvm.Cond.laysFinal "SquareSymbols$Mender" "SquareSymbols$Mender" "syndromes" "[I") ∈ lw_g := lw_g_of (tx_in1 (List.mem_of_getElem? (i := 165) rfl)) rfl
theorem tb_166 : (Jvm.Cond.soleField "SquareSymbols$Mender" "syndromes") ∈ lw_g := lw_g_of (tx_in1 (List.mem_of_getElem? (i := 166) rfl)) rfl
theorem tb_167 : (Jvm.Cond.laysFinal "SquareSymbols$Mender" "SquareSymbols$Mender" "locator" "[I") ∈ lw_g := lw_g_of (tx_in1 (List.mem_of_getElem? (i := 167) rfl)) rfl
theorem tb_168 : (Jvm.Cond.soleField "SquareSymbols$Mender" "locator") ∈ lw_g := lw_g_of (tx_in1 (List.mem_of_getElem? (i := 168) rfl)) rfl
theorem tb_169 : (Jvm.Cond.laysFinal "SquareSymbols$Mender" "SquareSymbols$Mender" "olderLocator" "[I") ∈ lw_g := lw_g_of (tx_in1 (List.mem_of_getElem? (i := 169) rfl)) rfl
theorem tb_170 : (Jvm.Cond.soleField "SquareSymbols$Mender" "olderLocator") ∈ lw_g := lw_g_of (tx_in1 (List.mem_of_getElem? (i := 170) rfl)) rfl
theorem tb_171 : (Jvm.Cond.laysFinal "SquareSymbols$Mender" "SquareSymbols$Mender" "keptLocator" "[I") ∈ lw_g := lw_g_of (tx_in1 (List.mem_of_getElem? (i := 171) rfl)) rfl
theorem tb_172 : (Jvm.Cond.soleField "SquareSymbols$Mender" "keptLocator") ∈ lw_g := lw_g_of (tx_in1 (List.mem_of_getElem? (i := 172) rfl)) rfl
theorem tb_173 : (Jvm.Cond.laysFinal "SquareSymbols$Mender" "SquareSymbols$Mender" "evaluator" "[I") ∈ lw_g := lw_g_of (tx_in1 (List.mem_of_getElem? (i := 173) rfl)) rfl
theorem tb_174 : (Jvm.Cond.soleField "SquareSymbols$Mender" "evaluator") ∈ lw_g := lw_g_of (tx_in1 (List.mem_of_getElem? (i := 174) rfl)) rfl
theorem tb_175 : (Jvm.Cond.laysFinal "SquareSymbols$Mender" "SquareSymbols$Mender" "places" "[I") ∈ lw_g := lw_g_of (tx_in1 (List.mem_of_getElem? (i := 175) rfl)) rfl
theorem tb_176 : (Jvm.Cond.soleField "SquareSymbols$Mender" "places") ∈ lw_g := lw_g_of (tx_in1 (List.mem_of_getElem? (i := 176) rfl)) rfl
theorem tb_177 : (Jvm.Cond.superclass "SquareSymbols$Mender" "java/lang/Object") ∈ lw_g := lw_g_of (tx_in1 (List.mem_of_getElem? (i := 177) rfl)) rfl
theorem tb_178 : (Jvm.Cond.classLink "SquareSymbols" (42 : Nat) "SquareSymbols$Parser") ∈ lw_g := lw_g_of (tx_in1 (List.mem_of_getElem? (i := 178) rfl)) rfl
theorem tb_179 : (Jvm.Cond.instantiable "SquareSymbols$Parser" (6 : Nat)) ∈ lw_g := lw_g_of (tx_in1 (List.mem_of_getElem? (i := 179) rfl)) rfl
theorem tb_180 : (Jvm.Cond.methodLink "SquareSymbols" (44 : Nat) ({ cls := "SquareSymbols$Parser", name := "<init>", desc := "(LSquareSymbols$Codewords;)V" } : Jvm.MethodName)) ∈ lw_g := lw_g_of (tx_in1 (List.mem_of_getElem? (i := 180) rfl)) rfl
theorem tb_181 : (Jvm.Cond.instanceMethod ({ cls := "SquareSymbols$Parser", name := "<init>", desc := "(LSquareSymbols$Codewords;)V" } : Jvm.MethodName)) ∈ lw_g := lw_g_of (tx_in1 (List.mem_of_getElem? (i := 181) rfl)) rfl
theorem tb_182 : (Jvm.Cond.code ({ cls := "SquareSymbols$Parser", name := "<init>", desc := "(LSquareSymbols$Codewords;)V" } : Jvm.MethodName) prog_10_method_1_code (2 : Nat) (Option.none : Option Jvm.ClassFile.FieldType)) ∈ lw_g := lw_g_of (tx_in1 (List.mem_of_getElem? (i := 182) rfl)) rfl
theorem tb_183 : (Jvm.Cond.methodLink "SquareSymbols$Parser" (3 : Nat) ({ cls := "java/lang/Object", name := "<init>", desc := "()V" } : Jvm.MethodName)) ∈ lw_g := lw_g_of (tx_in1 (List.mem_of_getElem? (i := 183) rfl)) rfl
theorem tb_184 : (Jvm.Cond.fieldLink "SquareSymbols$Parser" (9 : Nat) "SquareSymbols$Parser" "words" "LSquareSymbols$Codewords;") ∈ lw_g := lw_g_of (tx_in1 (List.mem_of_getElem? (i := 184) rfl)) rfl
theorem tb_185 : (Jvm.Cond.fieldLink "SquareSymbols$Parser" (22 : Nat) "SquareSymbols$Parser" "target" "LSquareSymbols$Data;") ∈ lw_g := lw_g_of (tx_in1 (List.mem_of_getElem? (i := 185) rfl)) rfl
theorem tb_186 : (Jvm.Cond.fieldLink "SquareSymbols$Parser" (19 : Nat) "SquareSymbols$Parser" "version" "I") ∈ lw_g := lw_g_of (tx_in1 (List.mem_of_getElem? (i := 186) rfl)) rfl
theorem tb_187 : (Jvm.Cond.fieldLink "SquareSymbols$Parser" (26 : Nat) "SquareSymbols$Parser" "next" "I") ∈ lw_g := lw_g_of (tx_in1 (List.mem_of_getElem? (i := 187) rfl)) rfl
theorem tb_188 : (Jvm.Cond.fieldLink "SquareSymbols$Parser" (29 : Nat) "SquareSymbols$Parser" "size" "I") ∈ lw_g := lw_g_of (tx_in1 (List.mem_of_getElem? (i := 188) rfl)) rfl
theorem tb_189 : (Jvm.Cond.fieldLink "SquareSymbols$Parser" (15 : Nat) "SquareSymbols$Parser" "segments" "I") ∈ lw_g := lw_g_of (tx_in1 (List.mem_of_getElem? (i := 189) rfl)) rfl
theorem tb_190 : (Jvm.Cond.laysFinal "SquareSymbols$Parser" "SquareSymbols$Parser" "words" "LSquareSymbols$Codewords;") ∈ lw_g := lw_g_of (tx_in1 (List.mem_of_getElem? (i := 190) rfl)) rfl
theorem tb_191 : (Jvm.Cond.soleField "SquareSymbols$Parser" "words") ∈ lw_g := lw_g_of (tx_in1 (List.mem_of_getElem? (i := 191) rfl)) rfl
theorem tb_192 : (Jvm.Cond.lays "SquareSymbols$Parser" "SquareSymbols$Parser" "target" "LSquareSymbols$Data;") ∈ lw_g := lw_g_of (tx_in1 (List.mem_of_getElem? (i := 192) rfl)) rfl
theorem tb_193 : (Jvm.Cond.soleField "SquareSymbols$Parser" "target") ∈ lw_g := lw_g_of (tx_in1 (List.mem_of_getElem? (i := 193) rfl)) rfl
theorem tb_194 : (Jvm.Cond.lays "SquareSymbols$Parser" "SquareSymbols$Parser" "version" "I") ∈ lw_g := lw_g_of (tx_in1 (List.mem_of_getElem? (i := 194) rfl)) rfl
theorem tb_195 : (Jvm.Cond.soleField "SquareSymbols$Parser" "version") ∈ lw_g := lw_g_of (tx_in1 (List.mem_of_getElem? (i := 195) rfl)) rfl
theorem tb_196 : (Jvm.Cond.lays "SquareSymbols$Parser" "SquareSymbols$Parser" "next" "I") ∈ lw_g := lw_g_of (tx_in1 (List.mem_of_getElem? (i := 196) rfl)) rfl
theorem tb_197 : (Jvm.Cond.soleField "SquareSymbols$Parser" "next") ∈ lw_g := lw_g_of (tx_in1 (List.mem_of_getElem? (i := 197) rfl)) rfl
theorem tb_198 : (Jvm.Cond.lays "SquareSymbols$Parser" "SquareSymbols$Parser" "size" "I") ∈ lw_g := lw_g_of (tx_in1 (List.mem_of_getElem? (i := 198) rfl)) rfl
theorem tb_199 : (Jvm.Cond.soleField "SquareSymbols$Parser" "size") ∈ lw_g := lw_g_of (tx_in1 (List.mem_of_getElem? (i := 199) rfl)) rfl
theorem tb_200 : (Jvm.Cond.lays "SquareSymbols$Parser" "SquareSymbols$Parser" "segments" "I") ∈ lw_g := lw_g_of (tx_in1 (List.mem_of_getElem? (i := 200) rfl)) rfl
theorem tb_201 : (Jvm.Cond.soleField "SquareSymbols$Parser" "segments") ∈ lw_g := lw_g_of (tx_in1 (List.mem_of_getElem? (i := 201) rfl)) rfl
theorem tb_202 : (Jvm.Cond.superclass "SquareSymbols$Parser" "java/lang/Object") ∈ lw_g := lw_g_of (tx_in1 (List.mem_of_getElem? (i := 202) rfl)) rfl
theorem tb_203 : (Jvm.Cond.classLink "SquareSymbols" (51 : Nat) "SquareSymbols$Grid") ∈ lw_g := lw_g_of (tx_in1 (List.mem_of_getElem? (i := 203) rfl)) rfl
theorem tb_204 : (Jvm.Cond.instantiable "SquareSymbols$Grid" (2 : Nat)) ∈ lw_g := lw_g_of (tx_in1 (List.mem_of_getElem? (i := 204) rfl)) rfl
theorem tx_205 : (Jvm.Cond.methodLinkNest "SquareSymbols" (53 : Nat) ({ cls := "SquareSymbols$Grid", name := "<init>", desc := "()V" } : Jvm.MethodName) "SquareSymbols") ∈ lw_tbl := tx_in1 (List.mem_of_getElem? (i := 205) rfl)
theorem tb_206 : (Jvm.Cond.instanceMethod ({ cls := "SquareSymbols$Grid", name := "<init>", desc := "()V" } : Jvm.MethodName)) ∈ lw_g := lw_g_of (tx_in1 (List.mem_of_getElem? (i := 206) rfl)) rfl
theorem tb_207 : (Jvm.Cond.code ({ cls := "SquareSymbols$Grid", name := "<init>", desc := "()V" } : Jvm.MethodName) prog_7_method_1_code (1 : Nat) (Option.none : Option Jvm.ClassFile.FieldType)) ∈ lw_g := lw_g_of (tx_in1 (List.mem_of_getElem? (i := 207) rfl)) rfl
theorem tb_208 : (Jvm.Cond.methodLink "SquareSymbols$Grid" (1 : Nat) ({ cls := "java/lang/Object", name := "<init>", desc := "()V" } : Jvm.MethodName)) ∈ lw_g := lw_g_of (tx_in1 (List.mem_of_getElem? (i := 208) rfl)) rfl
theorem tb_209 : (Jvm.Cond.fieldLink "SquareSymbols$Grid" (9 : Nat) "SquareSymbols$Grid" "words" "[J") ∈ lw_g := lw_g_of (tx_in1 (List.mem_of_getElem? (i := 209) rfl)) rfl
theorem tb_210 : (Jvm.Cond.fieldLink "SquareSymbols$Grid" (13 : Nat) "SquareSymbols$Grid" "side" "I") ∈ lw_g := lw_g_of (tx_in1 (List.mem_of_getElem? (i := 210) rfl)) rfl
theorem tb_211 : (Jvm.Cond.laysFinal "SquareSymbols$Grid" "SquareSymbols$Grid" "words" "[J") ∈ lw_g := lw_g_of (tx_in1 (List.mem_of_getElem? (i := 211) rfl)) rfl
theorem tb_212 : (Jvm.Cond.soleField "SquareSymbols$Grid" "words") ∈ lw_g := lw_g_of (tx_in1 (List.mem_of_getElem? (i := 212) rfl)) rfl
theorem tb_213 : (Jvm.Cond.lays "SquareSymbols$Grid" "SquareSymbols$Grid" "side" "I") ∈ lw_g := lw_g_of (tx_in1 (List.mem_of_getElem? (i := 213) rfl)) rfl
theorem tb_214 : (Jvm.Cond.soleField "SquareSymbols$Grid" "side") ∈ lw_g := lw_g_of (tx_in1 (List.mem_of_getElem? (i := 214) rfl)) rfl
theorem tb_215 : (Jvm.Cond.superclass "SquareSymbols$Grid" "java/lang/Object") ∈ lw_g := lw_g_of (tx_in1 (List.mem_of_getElem? (i := 215) rfl)) rfl
theorem tb_216 : (Jvm.Cond.arrayClass Jvm.ClassFile.FieldType.long) ∈ lw_g := lw_g_of (tx_in1 (List.mem_of_getElem? (i := 216) rfl)) rfl
theorem tb_217 : (Jvm.Cond.classLink "SquareSymbols" (58 : Nat) "SquareSymbols$Frame") ∈ lw_g := lw_g_of (tx_in1 (List.mem_of_getElem? (i := 217) rfl)) rfl
theorem tb_218 : (Jvm.Cond.instantiable "SquareSymbols$Frame" (7 : Nat)) ∈ lw_g := lw_g_of (tx_in1 (List.mem_of_getElem? (i := 218) rfl)) rfl
theorem tx_219 : (Jvm.Cond.methodLinkNest "SquareSymbols" (60 : Nat) ({ cls := "SquareSymbols$Frame", name := "<init>", desc := "()V" } : Jvm.MethodName) "SquareSymbols") ∈ lw_tbl := tx_in1 (List.mem_of_getElem? (i := 219) rfl)
theorem tb_220 : (Jvm.Cond.instanceMethod ({ cls := "SquareSymbols$Frame", name := "<init>", desc := "()V" } : Jvm.MethodName)) ∈ lw_g := lw_g_of (tx_in1 (List.mem_of_getElem? (i := 220) rfl)) rfl
theorem tb_221 : (Jvm.Cond.code ({ cls := "SquareSymbols$Frame", name := "<init>", desc := "()V" } : Jvm.MethodName) prog_6_method_1_code (1 : Nat) (Option.none : Option Jvm.ClassFile.FieldType)) ∈ lw_g := lw_g_of (tx_in1 (List.mem_of_getElem? (i := 221) rfl)) rfl
theorem tb_222 : (Jvm.Cond.methodLink "SquareSymbols$Frame" (3 : Nat) ({ cls := "java/lang/Object", name := "<init>", desc := "()V" } : Jvm.MethodName)) ∈ lw_g := lw_g_of (tx_in1 (List.mem_of_getElem? (i := 222) rfl)) rfl
theorem tb_223 : (Jvm.Cond.classLink "SquareSymbols$Frame" (9 : Nat) "SquareSymbols$Grid") ∈ lw_g := lw_g_of (tx_in1 (List.mem_of_getElem? (i := 223) rfl)) rfl
theorem tx_224 : (Jvm.Cond.methodLinkNest "SquareSymbols$Frame" (11 : Nat) ({ cls := "SquareSymbols$Grid", name := "<init>", desc := "()V" } : Jvm.MethodName) "SquareSymbols") ∈ lw_tbl := tx_in1 (List.mem_of_getElem? (i := 224) rfl)
theorem tb_225 : (Jvm.Cond.fieldLink "SquareSymbols$Frame" (12 : Nat) "SquareSymbols$Frame" "fixed" "LSquareSymbols$Grid;") ∈ lw_g := lw_g_of (tx_in1 (List.mem_of_getElem? (i := 225) rfl)) rfl
theorem tb_226 : (Jvm.Cond.fieldLink "SquareSymbols$Frame" (18 : Nat) "SquareSymbols$Frame" "dark" "LSquareSymbols$Grid;") ∈ lw_g := lw_g_of (tx_in1 (List.mem_of_getElem? (i := 226) rfl)) rfl
theorem tx_227 : (Jvm.Cond.fieldLinkNest "SquareSymbols" (129 : Nat) "SquareSymbols$Frame" "dark" "LSquareSymbols$Grid;" "SquareSymbols") ∈ lw_tbl := tx_in1 (List.mem_of_getElem? (i := 227) rfl)
theorem tb_228 : (Jvm.Cond.fieldLink "SquareSymbols$Frame" (21 : Nat) "SquareSymbols$Frame" "maskRows" "[J") ∈ lw_g := lw_g_of (tx_in1 (List.mem_of_getElem? (i := 228) rfl)) rfl
theorem tb_229 : (Jvm.Cond.fieldLink "SquareSymbols$Frame" (31 : Nat) "SquareSymbols$Frame" "side" "I") ∈ lw_g := lw_g_of (tx_in1 (List.mem_of_getElem? (i := 229) rfl)) rfl
theorem tb_230 : (Jvm.Cond.fieldLink "SquareSymbols$Frame" (89 : Nat) "SquareSymbols$Frame" "next" "I") ∈ lw_g := lw_g_of (tx_in1 (List.mem_of_getElem? (i := 230) rfl)) rfl
theorem tb_231 : (Jvm.Cond.fieldLink "SquareSymbols$Frame" (107 : Nat) "SquareSymbols$Frame" "x" "I") ∈ lw_g := lw_g_of (tx_in1 (List.mem_of_getElem? (i := 231) rfl)) rfl
theorem tb_232 : (Jvm.Cond.fieldLink "SquareSymbols$Frame" (110 : Nat) "SquareSymbols$Frame" "y" "I") ∈ lw_g := lw_g_of (tx_in1 (List.mem_of_getElem? (i := 232) rfl)) rfl
theorem tb_233 : (Jvm.Cond.laysFinal "SquareSymbols$Frame" "SquareSymbols$Frame" "fixed" "LSquareSymbols$Grid;") ∈ lw_g := lw_g_of (tx_in1 (List.mem_of_getElem? (i := 233) rfl)) rfl
theorem tb_234 : (Jvm.Cond.soleField "SquareSymbols$Frame" "fixed") ∈ lw_g := lw_g_of (tx_in1 (List.mem_of_getElem? (i := 234) rfl)) rfl
theorem tb_235 : (Jvm.Cond.laysFinal "SquareSymbols$Frame" "SquareSymbols$Frame" "dark" "LSquareSymbols$Grid;") ∈ lw_g := lw_g_of (tx_in1 (List.mem_of_getElem? (i := 235) rfl)) rfl
theorem tb_236 : (Jvm.Cond.soleField "SquareSymbols$Frame" "dark") ∈ lw_g := lw_g_of (tx_in1 (List.mem_of_getElem? (i := 236) rfl)) rfl
theorem tb_237 : (Jvm.Cond.laysFinal "SquareSymbols$Frame" "SquareSymbols$Frame" "maskRows" "[J") ∈ lw_g := lw_g_of (tx_in1 (List.mem_of_getElem? (i := 237) rfl)) rfl
theorem tb_238 : (Jvm.Cond.soleField "SquareSymbols$Frame" "maskRows") ∈ lw_g := lw_g_of (tx_in1 (List.mem_of_getElem? (i := 238) rfl)) rfl
theorem tb_239 : (Jvm.Cond.lays "SquareSymbols$Frame" "SquareSymbols$Frame" "side" "I") ∈ lw_g := lw_g_of (tx_in1 (List.mem_of_getElem? (i := 239) rfl)) rfl
theorem tb_240 : (Jvm.Cond.soleField "SquareSymbols$Frame" "side") ∈ lw_g := lw_g_of (tx_in2 (List.mem_of_getElem? (i := 0) rfl)) rfl
theorem tb_241 : (Jvm.Cond.lays "SquareSymbols$Frame" "SquareSymbols$Frame" "next" "I") ∈ lw_g := lw_g_of (tx_in2 (List.mem_of_getElem? (i := 1) rfl)) rfl
theorem tb_242 : (Jvm.Cond.soleField "SquareSymbols$Frame" "next") ∈ lw_g := lw_g_of (tx_in2 (List.mem_of_getElem? (i := 2) rfl)) rfl
theorem tb_243 : (Jvm.Cond.lays "SquareSymbols$Frame" "SquareSymbols$Frame" "x" "I") ∈ lw_g := lw_g_of (tx_in2 (List.mem_of_getElem? (i := 3) rfl)) rfl
theorem tb_244 : (Jvm.Cond.soleField "SquareSymbols$Frame" "x") ∈ lw_g := lw_g_of (tx_in2 (List.mem_of_getElem? (i := 4) rfl)) rfl
theorem tb_245 : (Jvm.Cond.lays "SquareSymbols$Frame" "SquareSymbols$Frame" "y" "I") ∈ lw_g := lw_g_of (tx_in2 (List.mem_of_getElem? (i := 5) rfl)) rfl
theorem tb_246 : (Jvm.Cond.soleField "SquareSymbols$Frame" "y") ∈ lw_g := lw_g_of (tx_in2 (List.mem_of_getElem? (i := 6) rfl)) rfl
theorem tb_247 : (Jvm.Cond.superclass "SquareSymbols$Frame" "java/lang/Object") ∈ lw_g := lw_g_of (tx_in2 (List.mem_of_getElem? (i := 7) rfl)) rfl
theorem tb_248 : (Jvm.Cond.classLink "SquareSymbols" (65 : Nat) "SquareSymbols$Penalty") ∈ lw_g := lw_g_of (tx_in2 (List.mem_of_getElem? (i := 8) rfl)) rfl
theorem tb_249 : (Jvm.Cond.instantiable "SquareSymbols$Penalty" (1 : Nat)) ∈ lw_g := lw_g_of (tx_in2 (List.mem_of_getElem? (i := 9) rfl)) rfl
theorem tx_250 : (Jvm.Cond.methodLinkNest "SquareSymbols" (67 : Nat) ({ cls := "SquareSymbols$Penalty", name := "<init>", desc := "()V" } : Jvm.MethodName) "SquareSymbols") ∈ lw_tbl := tx_in2 (List.mem_of_getElem? (i := 10) rfl)
theorem tb_251 : (Jvm.Cond.instanceMethod ({ cls := "SquareSymbols$Penalty", name := "<init>", desc := "()V" } : Jvm.MethodName)) ∈ lw_g := lw_g_of (tx_in2 (List.mem_of_getElem? (i := 11) rfl)) rfl
theorem tb_252 : (Jvm.Cond.code ({ cls := "SquareSymbols$Penalty", name := "<init>", desc := "()V" } : Jvm.MethodName) prog_11_method_1_code (1 : Nat) (Option.none : Option Jvm.ClassFile.FieldType)) ∈ lw_g := lw_g_of (tx_in2 (List.mem_of_getElem? (i := 12) rfl)) rfl
theorem tb_253 : (Jvm.Cond.methodLink "SquareSymbols$Penalty" (1 : Nat) ({ cls := "java/lang/Object", name := "<init>", desc := "()V" } : Jvm.MethodName)) ∈ lw_g := lw_g_of (tx_in2 (List.mem_of_getElem? (i := 13) rfl)) rfl
theorem tb_254 : (Jvm.Cond.fieldLink "SquareSymbols$Penalty" (9 : Nat) "SquareSymbols$Penalty" "ahead" "[J") ∈ lw_g := lw_g_of (tx_in2 (List.mem_of_getElem? (i := 14) rfl)) rfl
theorem tb_255 : (Jvm.Cond.laysFinal "SquareSymbols$Penalty" "SquareSymbols$Penalty" "ahead" "[J") ∈ lw_g := lw_g_of (tx_in2 (List.mem_of_getElem? (i := 15) rfl)) rfl
theorem tb_256 : (Jvm.Cond.soleField "SquareSymbols$Penalty" "ahead") ∈ lw_g := lw_g_of (tx_in2 (List.mem_of_getElem? (i := 16) rfl)) rfl
theorem tb_257 : (Jvm.Cond.superclass "SquareSymbols$Penalty" "java/lang/Object") ∈ lw_g := lw_g_of (tx_in2 (List.mem_of_getElem? (i := 17) rfl)) rfl
theorem tb_258 : (Jvm.Cond.fieldLink "SquareSymbols" (13 : Nat) "SquareSymbols" "data" "LSquareSymbols$Data;") ∈ lw_g := lw_g_of (tx_in2 (List.mem_of_getElem? (i := 18) rfl)) rfl
theorem tb_259 : (Jvm.Cond.fieldLink "SquareSymbols" (22 : Nat) "SquareSymbols" "division" "LSquareSymbols$Division;") ∈ lw_g := lw_g_of (tx_in2 (List.mem_of_getElem? (i := 19) rfl)) rfl
theorem tb_260 : (Jvm.Cond.fieldLink "SquareSymbols" (31 : Nat) "SquareSymbols" "codewords" "LSquareSymbols$Codewords;") ∈ lw_g := lw_g_of (tx_in2 (List.mem_of_getElem? (i := 20) rfl)) rfl
theorem tb_261 : (Jvm.Cond.fieldLink "SquareSymbols" (38 : Nat) "SquareSymbols" "mender" "LSquareSymbols$Mender;") ∈ lw_g := lw_g_of (tx_in2 (List.mem_of_getElem? (i := 21) rfl)) rfl
theorem tb_262 : (Jvm.Cond.fieldLink "SquareSymbols" (47 : Nat) "SquareSymbols" "parser" "LSquareSymbols$Parser;") ∈ lw_g := lw_g_of (tx_in2 (List.mem_of_getElem? (i := 22) rfl)) rfl
theorem tb_263 : (Jvm.Cond.fieldLink "SquareSymbols" (54 : Nat) "SquareSymbols" "symbol" "LSquareSymbols$Grid;") ∈ lw_g := lw_g_of (tx_in2 (List.mem_of_getElem? (i := 23) rfl)) rfl
theorem tb_264 : (Jvm.Cond.fieldLink "SquareSymbols" (61 : Nat) "SquareSymbols" "frame" "LSquareSymbols$Frame;") ∈ lw_g := lw_g_of (tx_in2 (List.mem_of_getElem? (i := 24) rfl)) rfl
theorem tb_265 : (Jvm.Cond.fieldLink "SquareSymbols" (68 : Nat) "SquareSymbols" "judge" "LSquareSymbols$Penalty;") ∈ lw_g := lw_g_of (tx_in2 (List.mem_of_getElem? (i := 25) rfl)) rfl
theorem tb_266 : (Jvm.Cond.fieldLink "SquareSymbols" (146 : Nat) "SquareSymbols" "isMade" "Z") ∈ lw_g := lw_g_of (tx_in2 (List.mem_of_getElem? (i := 26) rfl)) rfl
theorem tb_267 : (Jvm.Cond.fieldLink "SquareSymbols" (72 : Nat) "SquareSymbols" "made" "[I") ∈ lw_g := lw_g_of (tx_in2 (List.mem_of_getElem? (i := 27) rfl)) rfl
theorem tb_268 : (Jvm.Cond.fieldLink "SquareSymbols" (76 : Nat) "SquareSymbols" "madeSegments" "[I") ∈ lw_g := lw_g_of (tx_in2 (List.mem_of_getElem? (i := 28) rfl)) rfl
theorem tb_269 : (Jvm.Cond.fieldLink "SquareSymbols" (177 : Nat) "SquareSymbols" "isRead" "Z") ∈ lw_g := lw_g_of (tx_in2 (List.mem_of_getElem? (i := 29) rfl)) rfl
theorem tb_270 : (Jvm.Cond.fieldLink "SquareSymbols" (79 : Nat) "SquareSymbols" "found" "[I") ∈ lw_g := lw_g_of (tx_in2 (List.mem_of_getElem? (i := 30) rfl)) rfl
theorem tb_271 : (Jvm.Cond.fieldLink "SquareSymbols" (180 : Nat) "SquareSymbols" "lastFault" "I") ∈ lw_g := lw_g_of (tx_in2 (List.mem_of_getElem? (i := 31) rfl)) rfl
theorem tb_272 : (Jvm.Cond.laysFinal "SquareSymbols" "SquareSymbols" "data" "LSquareSymbols$Data;") ∈ lw_g := lw_g_of (tx_in2 (List.mem_of_getElem? (i := 32) rfl)) rfl
theorem tb_273 : (Jvm.Cond.soleField "SquareSymbols" "data") ∈ lw_g := lw_g_of (tx_in2 (List.mem_of_getElem? (i := 33) rfl)) rfl
theorem tb_274 : (Jvm.Cond.laysFinal "SquareSymbols" "SquareSymbols" "division" "LSquareSymbols$Division;") ∈ lw_g := lw_g_of (tx_in2 (List.mem_of_getElem? (i := 34) rfl)) rfl
theorem tb_275 : (Jvm.Cond.soleField "SquareSymbols" "division") ∈ lw_g := lw_g_of (tx_in2 (List.mem_of_getElem? (i := 35) rfl)) rfl
theorem tb_276 : (Jvm.Cond.laysFinal "SquareSymbols" "SquareSymbols" "codewords" "LSquareSymbols$Codewords;") ∈ lw_g := lw_g_of (tx_in2 (List.mem_of_getElem? (i := 36) rfl)) rfl
theorem tb_277 : (Jvm.Cond.soleField "SquareSymbols" "codewords") ∈ lw_g := lw_g_of (tx_in2 (List.mem_of_getElem? (i := 37) rfl)) rfl
theorem tb_278 : (Jvm.Cond.laysFinal "SquareSymbols" "SquareSymbols" "mender" "LSquareSymbols$Mender;") ∈ lw_g := lw_g_of (tx_in2 (List.mem_of_getElem? (i := 38) rfl)) rfl
theorem tb_279 : (Jvm.Cond.soleField "SquareSymbols" "mender") ∈ lw_g := lw_g_of (tx_in2 (List.mem_of_getElem? (i := 39) rfl)) rfl
theorem tb_280 : (Jvm.Cond.laysFinal "SquareSymbols" "SquareSymbols" "parser" "LSquareSymbols$Parser;") ∈ lw_g := lw_g_of (tx_in2 (List.mem_of_getElem? (i := 40) rfl)) rfl
theorem tb_281 : (Jvm.Cond.soleField "SquareSymbols" "parser") ∈ lw_g := lw_g_of (tx_in2 (List.mem_of_getElem? (i := 41) rfl)) rfl
theorem tb_282 : (Jvm.Cond.laysFinal "SquareSymbols" "SquareSymbols" "symbol" "LSquareSymbols$Grid;") ∈ lw_g := lw_g_of (tx_in2 (List.mem_of_getElem? (i := 42) rfl)) rfl
theorem tb_283 : (Jvm.Cond.soleField "SquareSymbols" "symbol") ∈ lw_g := lw_g_of (tx_in2 (List.mem_of_getElem? (i := 43) rfl)) rfl
theorem tb_284 : (Jvm.Cond.laysFinal "SquareSymbols" "SquareSymbols" "frame" "LSquareSymbols$Frame;") ∈ lw_g := lw_g_of (tx_in2 (List.mem_of_getElem? (i := 44) rfl)) rfl
theorem tb_285 : (Jvm.Cond.soleField "SquareSymbols" "frame") ∈ lw_g := lw_g_of (tx_in2 (List.mem_of_getElem? (i := 45) rfl)) rfl
theorem tb_286 : (Jvm.Cond.laysFinal "SquareSymbols" "SquareSymbols" "judge" "LSquareSymbols$Penalty;") ∈ lw_g := lw_g_of (tx_in2 (List.mem_of_getElem? (i := 46) rfl)) rfl
theorem tb_287 : (Jvm.Cond.soleField "SquareSymbols" "judge") ∈ lw_g := lw_g_of (tx_in2 (List.mem_of_getElem? (i := 47) rfl)) rfl
theorem tb_288 : (Jvm.Cond.lays "SquareSymbols" "SquareSymbols" "isMade" "Z") ∈ lw_g := lw_g_of (tx_in2 (List.mem_of_getElem? (i := 48) rfl)) rfl
theorem tb_289 : (Jvm.Cond.soleField "SquareSymbols" "isMade") ∈ lw_g := lw_g_of (tx_in2 (List.mem_of_getElem? (i := 49) rfl)) rfl
theorem tb_290 : (Jvm.Cond.laysFinal "SquareSymbols" "SquareSymbols" "made" "[I") ∈ lw_g := lw_g_of (tx_in2 (List.mem_of_getElem? (i := 50) rfl)) rfl
theorem tb_291 : (Jvm.Cond.soleField "SquareSymbols" "made") ∈ lw_g := lw_g_of (tx_in2 (List.mem_of_getElem? (i := 51) rfl)) rfl
theorem tb_292 : (Jvm.Cond.laysFinal "SquareSymbols" "SquareSymbols" "madeSegments" "[I") ∈ lw_g := lw_g_of (tx_in2 (List.mem_of_getElem? (i := 52) rfl)) rfl
theorem tb_293 : (Jvm.Cond.soleField "SquareSymbols" "madeSegments") ∈ lw_g := lw_g_of (tx_in2 (List.mem_of_getElem? (i := 53) rfl)) rfl
theorem tb_294 : (Jvm.Cond.lays "SquareSymbols" "SquareSymbols" "isRead" "Z") ∈ lw_g := lw_g_of (tx_in2 (List.mem_of_getElem? (i := 54) rfl)) rfl
theorem tb_295 : (Jvm.Cond.soleField "SquareSymbols" "isRead") ∈ lw_g := lw_g_of (tx_in2 (List.mem_of_getElem? (i := 55) rfl)) rfl
theorem tb_296 : (Jvm.Cond.laysFinal "SquareSymbols" "SquareSymbols" "found" "[I") ∈ lw_g := lw_g_of (tx_in2 (List.mem_of_getElem? (i := 56) rfl)) rfl
theorem tb_297 : (Jvm.Cond.soleField "SquareSymbols" "found") ∈ lw_g := lw_g_of (tx_in2 (List.mem_of_getElem? (i := 57) rfl)) rfl
theorem tb_298 : (Jvm.Cond.lays "SquareSymbols" "SquareSymbols" "lastFault" "I") ∈ lw_g := lw_g_of (tx_in2 (List.mem_of_getElem? (i := 58) rfl)) rfl
theorem tb_299 : (Jvm.Cond.soleField "SquareSymbols" "lastFault") ∈ lw_g := lw_g_of (tx_in2 (List.mem_of_getElem? (i := 59) rfl)) rfl
theorem tb_300 : (Jvm.Cond.superclass "SquareSymbols" "java/lang/Object") ∈ lw_g := lw_g_of (tx_in2 (List.mem_of_getElem? (i := 60) rfl)) rfl
theorem tb_301 : (Jvm.Cond.methodLink "SquareSymbolsLaw" (56 : Nat) ({ cls := "SquareSymbols", name := "wipe", desc := "()I" } : Jvm.MethodName)) ∈ lw_g := lw_g_of (tx_in2 (List.mem_of_getElem? (i := 61) rfl)) rfl
theorem tb_302 : (Jvm.Cond.instanceMethod ({ cls := "SquareSymbols", name := "wipe", desc := "()I" } : Jvm.MethodName)) ∈ lw_g := lw_g_of (tx_in2 (List.mem_of_getElem? (i := 62) rfl)) rfl
theorem tb_303 : (Jvm.Cond.selects "SquareSymbols" ({ cls := "SquareSymbols", name := "wipe", desc := "()I" } : Jvm.MethodName) ({ cls := "SquareSymbols", name := "wipe", desc := "()I" } : Jvm.MethodName)) ∈ lw_g := lw_g_of (tx_in2 (List.mem_of_getElem? (i := 63) rfl)) rfl
theorem tb_304 : (Jvm.Cond.code ({ cls := "SquareSymbols", name := "wipe", desc := "()I" } : Jvm.MethodName) prog_1_method_4_code (2 : Nat) (Option.some Jvm.ClassFile.FieldType.int)) ∈ lw_g := lw_g_of (tx_in2 (List.mem_of_getElem? (i := 64) rfl)) rfl
theorem tb_305 : (Jvm.Cond.methodLink "SquareSymbols" (97 : Nat) ({ cls := "SquareSymbols$Data", name := "size", desc := "()I" } : Jvm.MethodName)) ∈ lw_g := lw_g_of (tx_in2 (List.mem_of_getElem? (i := 65) rfl)) rfl
theorem tb_306 : (Jvm.Cond.instanceMethod ({ cls := "SquareSymbols$Data", name := "size", desc := "()I" } : Jvm.MethodName)) ∈ lw_g := lw_g_of (tx_in2 (List.mem_of_getElem? (i := 66) rfl)) rfl
theorem tb_307 : (Jvm.Cond.selects "SquareSymbols$Data" ({ cls := "SquareSymbols$Data", name := "size", desc := "()I" } : Jvm.MethodName) ({ cls := "SquareSymbols$Data", name := "size", desc := "()I" } : Jvm.MethodName)) ∈ lw_g := lw_g_of (tx_in2 (List.mem_of_getElem? (i := 67) rfl)) rfl
theorem tb_308 : (Jvm.Cond.code ({ cls := "SquareSymbols$Data", name := "size", desc := "()I" } : Jvm.MethodName) prog_3_method_2_code (1 : Nat) (Option.some Jvm.ClassFile.FieldType.int)) ∈ lw_g := lw_g_of (tx_in2 (List.mem_of_getElem? (i := 68) rfl)) rfl
theorem tb_309 : (Jvm.Cond.methodLink "SquareSymbols" (105 : Nat) ({ cls := "SquareSymbols$Data", name := "clear", desc := "()V" } : Jvm.MethodName)) ∈ lw_g := lw_g_of (tx_in2 (List.mem_of_getElem? (i := 69) rfl)) rfl
theorem tb_310 : (Jvm.Cond.instanceMethod ({ cls := "SquareSymbols$Data", name := "clear", desc := "()V" } : Jvm.MethodName)) ∈ lw_g := lw_g_of (tx_in2 (List.mem_of_getElem? (i := 70) rfl)) rfl
theorem tb_311 : (Jvm.Cond.selects "SquareSymbols$Data" ({ cls := "SquareSymbols$Data", name := "clear", desc := "()V" } : Jvm.MethodName) ({ cls := "SquareSymbols$Data", name := "clear", desc := "()V" } : Jvm.MethodName)) ∈ lw_g := lw_g_of (tx_in2 (List.mem_of_getElem? (i := 71) rfl)) rfl
theorem tb_312 : (Jvm.Cond.code ({ cls := "SquareSymbols$Data", name := "clear", desc := "()V" } : Jvm.MethodName) prog_3_method_5_code (1 : Nat) (Option.none : Option Jvm.ClassFile.FieldType)) ∈ lw_g := lw_g_of (tx_in2 (List.mem_of_getElem? (i := 72) rfl)) rfl
theorem tb_313 : (Jvm.Cond.methodLink "SquareSymbolsLaw" (60 : Nat) ({ cls := "SquareSymbols", name := "at", desc := "(I)I" } : Jvm.MethodName)) ∈ lw_g := lw_g_of (tx_in2 (List.mem_of_getElem? (i := 73) rfl)) rfl
theorem tb_314 : (Jvm.Cond.instanceMethod ({ cls := "SquareSymbols", name := "at", desc := "(I)I" } : Jvm.MethodName)) ∈ lw_g := lw_g_of (tx_in2 (List.mem_of_getElem? (i := 74) rfl)) rfl
theorem tb_315 : (Jvm.Cond.selects "SquareSymbols" ({ cls := "SquareSymbols", name := "at", desc := "(I)I" } : Jvm.MethodName) ({ cls := "SquareSymbols", name := "at", desc := "(I)I" } : Jvm.MethodName)) ∈ lw_g := lw_g_of (tx_in2 (List.mem_of_getElem? (i := 75) rfl)) rfl
theorem tb_316 : (Jvm.Cond.code ({ cls := "SquareSymbols", name := "at", desc := "(I)I" } : Jvm.MethodName) prog_1_method_5_code (2 : Nat) (Option.some Jvm.ClassFile.FieldType.int)) ∈ lw_g := lw_g_of (tx_in2 (List.mem_of_getElem? (i := 76) rfl)) rfl
theorem tb_317 : (Jvm.Cond.methodLink "SquareSymbols" (108 : Nat) ({ cls := "SquareSymbols$Data", name := "get", desc := "(I)I" } : Jvm.MethodName)) ∈ lw_g := lw_g_of (tx_in2 (List.mem_of_getElem? (i := 77) rfl)) rfl
theorem tb_318 : (Jvm.Cond.instanceMethod ({ cls := "SquareSymbols$Data", name := "get", desc := "(I)I" } : Jvm.MethodName)) ∈ lw_g := lw_g_of (tx_in2 (List.mem_of_getElem? (i := 78) rfl)) rfl
theorem tb_319 : (Jvm.Cond.selects "SquareSymbols$Data" ({ cls := "SquareSymbols$Data", name := "get", desc := "(I)I" } : Jvm.MethodName) ({ cls := "SquareSymbols$Data", name := "get", desc := "(I)I" } : Jvm.MethodName)) ∈ lw_g := lw_g_of (tx_in2 (List.mem_of_getElem? (i := 79) rfl)) rfl
theorem tb_320 : (Jvm.Cond.code ({ cls := "SquareSymbols$Data", name := "get", desc := "(I)I" } : Jvm.MethodName) prog_3_method_6_code (2 : Nat) (Option.some Jvm.ClassFile.FieldType.int)) ∈ lw_g := lw_g_of (tx_in2 (List.mem_of_getElem? (i := 80) rfl)) rfl
theorem tb_321 : (Jvm.Cond.methodLink "SquareSymbolsLaw" (78 : Nat) ({ cls := "SquareSymbols", name := "row", desc := "(II)J" } : Jvm.MethodName)) ∈ lw_g := lw_g_of (tx_in2 (List.mem_of_getElem? (i := 81) rfl)) rfl
theorem tb_322 : (Jvm.Cond.instanceMethod ({ cls := "SquareSymbols", name := "row", desc := "(II)J" } : Jvm.MethodName)) ∈ lw_g := lw_g_of (tx_in2 (List.mem_of_getElem? (i := 82) rfl)) rfl
theorem tb_323 : (Jvm.Cond.selects "SquareSymbols" ({ cls := "SquareSymbols", name := "row", desc := "(II)J" } : Jvm.MethodName) ({ cls := "SquareSymbols", name := "row", desc := "(II)J" } : Jvm.MethodName)) ∈ lw_g := lw_g_of (tx_in2 (List.mem_of_getElem? (i := 83) rfl)) rfl
theorem tb_324 : (Jvm.Cond.code ({ cls := "SquareSymbols", name := "row", desc := "(II)J" } : Jvm.MethodName) prog_1_method_10_code (3 : Nat) (Option.some Jvm.ClassFile.FieldType.long)) ∈ lw_g := lw_g_of (tx_in2 (List.mem_of_getElem? (i := 84) rfl)) rfl
theorem tb_325 : (Jvm.Cond.methodLink "SquareSymbols" (169 : Nat) ({ cls := "SquareSymbols$Grid", name := "from", desc := "(II)J" } : Jvm.MethodName)) ∈ lw_g := lw_g_of (tx_in2 (List.mem_of_getElem? (i := 85) rfl)) rfl
theorem tb_326 : (Jvm.Cond.instanceMethod ({ cls := "SquareSymbols$Grid", name := "from", desc := "(II)J" } : Jvm.MethodName)) ∈ lw_g := lw_g_of (tx_in2 (List.mem_of_getElem? (i := 86) rfl)) rfl
theorem tb_327 : (Jvm.Cond.selects "SquareSymbols$Grid" ({ cls := "SquareSymbols$Grid", name := "from", desc := "(II)J" } : Jvm.MethodName) ({ cls := "SquareSymbols$Grid", name := "from", desc := "(II)J" } : Jvm.MethodName)) ∈ lw_g := lw_g_of (tx_in2 (List.mem_of_getElem? (i := 87) rfl)) rfl
theorem tb_328 : (Jvm.Cond.code ({ cls := "SquareSymbols$Grid", name := "from", desc := "(II)J" } : Jvm.MethodName) prog_7_method_8_code (8 : Nat) (Option.some Jvm.ClassFile.FieldType.long)) ∈ lw_g := lw_g_of (tx_in2 (List.mem_of_getElem? (i := 88) rfl)) rfl
theorem tb_329 : (Jvm.Cond.methodLink "SquareSymbolsLaw" (83 : Nat) ({ cls := "SquareSymbols", name := "spoil", desc := "(IIJ)I" } : Jvm.MethodName)) ∈ lw_g := lw_g_of (tx_in2 (List.mem_of_getElem? (i := 89) rfl)) rfl
theorem tb_330 : (Jvm.Cond.instanceMethod ({ cls := "SquareSymbols", name := "spoil", desc := "(IIJ)I" } : Jvm.MethodName)) ∈ lw_g := lw_g_of (tx_in2 (List.mem_of_getElem? (i := 90) rfl)) rfl
theorem tb_331 : (Jvm.Cond.selects "SquareSymbols" ({ cls := "SquareSymbols", name := "spoil", desc := "(IIJ)I" } : Jvm.MethodName) ({ cls := "SquareSymbols", name := "spoil", desc := "(IIJ)I" } : Jvm.MethodName)) ∈ lw_g := lw_g_of (tx_in2 (List.mem_of_getElem? (i := 91) rfl)) rfl
theorem tb_332 : (Jvm.Cond.code ({ cls := "SquareSymbols", name := "spoil", desc := "(IIJ)I" } : Jvm.MethodName) prog_1_method_11_code (5 : Nat) (Option.some Jvm.ClassFile.FieldType.int)) ∈ lw_g := lw_g_of (tx_in2 (List.mem_of_getElem? (i := 92) rfl)) rfl
theorem tb_333 : (Jvm.Cond.methodLink "SquareSymbols" (173 : Nat) ({ cls := "SquareSymbols$Grid", name := "turnFrom", desc := "(IIJ)I" } : Jvm.MethodName)) ∈ lw_g := lw_g_of (tx_in2 (List.mem_of_getElem? (i := 93) rfl)) rfl
theorem tb_334 : (Jvm.Cond.instanceMethod ({ cls := "SquareSymbols$Grid", name := "turnFrom", desc := "(IIJ)I" } : Jvm.MethodName)) ∈ lw_g := lw_g_of (tx_in2 (List.mem_of_getElem? (i := 94) rfl)) rfl
theorem tb_335 : (Jvm.Cond.selects "SquareSymbols$Grid" ({ cls := "SquareSymbols$Grid", name := "turnFrom", desc := "(IIJ)I" } : Jvm.MethodName) ({ cls := "SquareSymbols$Grid", name := "turnFrom", desc := "(IIJ)I" } : Jvm.MethodName)) ∈ lw_g := lw_g_of (tx_in2 (List.mem_of_getElem? (i := 95) rfl)) rfl
theorem tb_336 : (Jvm.Cond.code ({ cls := "SquareSymbols$Grid", name := "turnFrom", desc := "(IIJ)I" } : Jvm.MethodName) prog_7_method_9_code (8 : Nat) (Option.some Jvm.ClassFile.FieldType.int)) ∈ lw_g := lw_g_of (tx_in2 (List.mem_of_getElem? (i := 96) rfl)) rfl
theorem tb_337 : (Jvm.Cond.methodLink "SquareSymbols$Grid" (44 : Nat) ({ cls := "SquareSymbols$Grid", name := "turn", desc := "(IIJ)I" } : Jvm.MethodName)) ∈ lw_g := lw_g_of (tx_in2 (List.mem_of_getElem? (i := 97) rfl)) rfl
theorem tb_338 : (Jvm.Cond.instanceMethod ({ cls := "SquareSymbols$Grid", name := "turn", desc := "(IIJ)I" } : Jvm.MethodName)) ∈ lw_g := lw_g_of (tx_in2 (List.mem_of_getElem? (i := 98) rfl)) rfl
theorem tb_339 : (Jvm.Cond.selects "SquareSymbols$Grid" ({ cls := "SquareSymbols$Grid", name := "turn", desc := "(IIJ)I" } : Jvm.MethodName) ({ cls := "SquareSymbols$Grid", name := "turn", desc := "(IIJ)I" } : Jvm.MethodName)) ∈ lw_g := lw_g_of (tx_in2 (List.mem_of_getElem? (i := 99) rfl)) rfl
theorem tb_340 : (Jvm.Cond.code ({ cls := "SquareSymbols$Grid", name := "turn", desc := "(IIJ)I" } : Jvm.MethodName) prog_7_method_10_code (7 : Nat) (Option.some Jvm.ClassFile.FieldType.int)) ∈ lw_g := lw_g_of (tx_in2 (List.mem_of_getElem? (i := 100) rfl)) rfl
theorem tx_341 : (Jvm.Cond.methodLinkNest "SquareSymbols$Grid" (48 : Nat) ({ cls := "SquareSymbols", name := "lowBits", desc := "(I)J" } : Jvm.MethodName) "SquareSymbols") ∈ lw_tbl := tx_in2 (List.mem_of_getElem? (i := 101) rfl)
theorem tb_342 : (Jvm.Cond.static ({ cls := "SquareSymbols", name := "lowBits", desc := "(I)J" } : Jvm.MethodName)) ∈ lw_g := lw_g_of (tx_in2 (List.mem_of_getElem? (i := 102) rfl)) rfl
theorem tb_343 : (Jvm.Cond.code ({ cls := "SquareSymbols", name := "lowBits", desc := "(I)J" } : Jvm.MethodName) prog_1_method_21_code (1 : Nat) (Option.some Jvm.ClassFile.FieldType.long)) ∈ lw_g := lw_g_of (tx_in2 (List.mem_of_getElem? (i := 103) rfl)) rfl
theorem tb_344 : (Jvm.Cond.constantLong "SquareSymbols" (273 : Nat) (-1 : Int64)) ∈ lw_g := lw_g_of (tx_in2 (List.mem_of_getElem? (i := 104) rfl)) rfl
theorem tb_345 : (Jvm.Cond.methodLink "SquareSymbols$Grid" (54 : Nat) ({ cls := "java/lang/Long", name := "bitCount", desc := "(J)I" } : Jvm.MethodName)) ∈ lw_g := lw_g_of (tx_in2 (List.mem_of_getElem? (i := 105) rfl)) rfl
theorem tb_346 : (Jvm.Cond.static ({ cls := "java/lang/Long", name := "bitCount", desc := "(J)I" } : Jvm.MethodName)) ∈ lw_g := lw_g_of (tx_in2 (List.mem_of_getElem? (i := 106) rfl)) rfl
theorem tb_347 : (Jvm.Cond.code ({ cls := "java/lang/Long", name := "bitCount", desc := "(J)I" } : Jvm.MethodName) prog_19_method_50_code (2 : Nat) (Option.some Jvm.ClassFile.FieldType.int)) ∈ lw_g := lw_g_of (tx_in2 (List.mem_of_getElem? (i := 107) rfl)) rfl
theorem tb_348 : (Jvm.Cond.constantLong "java/lang/Long" (314 : Nat) (6148914691236517205 : Int64)) ∈ lw_g := lw_g_of (tx_in2 (List.mem_of_getElem? (i := 108) rfl)) rfl
theorem tb_349 : (Jvm.Cond.constantLong "java/lang/Long" (316 : Nat) (3689348814741910323 : Int64)) ∈ lw_g := lw_g_of (tx_in2 (List.mem_of_getElem? (i := 109) rfl)) rfl
theorem tb_350 : (Jvm.Cond.constantLong "java/lang/Long" (318 : Nat) (1085102592571150095 : Int64)) ∈ lw_g := lw_g_of (tx_in2 (List.mem_of_getElem? (i := 110) rfl)) rfl
theorem tb_351 : (Jvm.Cond.methodLink "SquareSymbolsLaw" (88 : Nat) ({ cls := "SquareSymbols", name := "read", desc := "()I" } : Jvm.MethodName)) ∈ lw_g := lw_g_of (tx_in2 (List.mem_of_getElem? (i := 111) rfl)) rfl
theorem tb_352 : (Jvm.Cond.instanceMethod ({ cls := "SquareSymbols", name := "read", desc := "()I" } : Jvm.MethodName)) ∈ lw_g := lw_g_of (tx_in2 (List.mem_of_getElem? (i := 112) rfl)) rfl
theorem tb_353 : (Jvm.Cond.selects "SquareSymbols" ({ cls := "SquareSymbols", name := "read", desc := "()I" } : Jvm.MethodName) ({ cls := "SquareSymbols", name := "read", desc := "()I" } : Jvm.MethodName)) ∈ lw_g := lw_g_of (tx_in2 (List.mem_of_getElem? (i := 113) rfl)) rfl
theorem tb_354 : (Jvm.Cond.code ({ cls := "SquareSymbols", name := "read", desc := "()I" } : Jvm.MethodName) prog_1_method_12_code (1 : Nat) (Option.some Jvm.ClassFile.FieldType.int)) ∈ lw_g := lw_g_of (tx_in2 (List.mem_of_getElem? (i := 114) rfl)) rfl
theorem tb_355 : (Jvm.Cond.methodLink "SquareSymbols" (159 : Nat) ({ cls := "SquareSymbols$Grid", name := "side", desc := "()I" } : Jvm.MethodName)) ∈ lw_g := lw_g_of (tx_in2 (List.mem_of_getElem? (i := 115) rfl)) rfl
theorem tb_356 : (Jvm.Cond.instanceMethod ({ cls := "SquareSymbols$Grid", name := "side", desc := "()I" } : Jvm.MethodName)) ∈ lw_g := lw_g_of (tx_in2 (List.mem_of_getElem? (i := 116) rfl)) rfl
theorem tb_357 : (Jvm.Cond.selects "SquareSymbols$Grid" ({ cls := "SquareSymbols$Grid", name := "side", desc := "()I" } : Jvm.MethodName) ({ cls := "SquareSymbols$Grid", name := "side", desc := "()I" } : Jvm.MethodName)) ∈ lw_g := lw_g_of (tx_in2 (List.mem_of_getElem? (i := 117) rfl)) rfl
theorem tb_358 : (Jvm.Cond.code ({ cls := "SquareSymbols$Grid", name := "side", desc := "()I" } : Jvm.MethodName) prog_7_method_2_code (1 : Nat) (Option.some Jvm.ClassFile.FieldType.int)) ∈ lw_g := lw_g_of (tx_in2 (List.mem_of_getElem? (i := 118) rfl)) rfl
theorem tb_359 : (Jvm.Cond.methodLink "SquareSymbols" (184 : Nat) ({ cls := "SquareSymbols$Version", name := "ofSide", desc := "(I)I" } : Jvm.MethodName)) ∈ lw_g := lw_g_of (tx_in2 (List.mem_of_getElem? (i := 119) rfl)) rfl
theorem tb_360 : (Jvm.Cond.static ({ cls := "SquareSymbols$Version", name := "ofSide", desc := "(I)I" } : Jvm.MethodName)) ∈ lw_g := lw_g_of (tx_in2 (List.mem_of_getElem? (i := 120) rfl)) rfl
theorem tb_361 : (Jvm.Cond.code ({ cls := "SquareSymbols$Version", name := "ofSide", desc := "(I)I" } : Jvm.MethodName) prog_12_method_3_code (1 : Nat) (Option.some Jvm.ClassFile.FieldType.int)) ∈ lw_g := lw_g_of (tx_in2 (List.mem_of_getElem? (i := 121) rfl)) rfl
theorem tb_362 : (Jvm.Cond.methodLink "SquareSymbols" (187 : Nat) ({ cls := "SquareSymbols", name := "readSymbol", desc := "(I)I" } : Jvm.MethodName)) ∈ lw_g := lw_g_of (tx_in2 (List.mem_of_getElem? (i := 122) rfl)) rfl
theorem tx_363 : (Jvm.Cond.privateMethod ({ cls := "SquareSymbols", name := "readSymbol", desc := "(I)I" } : Jvm.MethodName)) ∈ lw_tbl := tx_in2 (List.mem_of_getElem? (i := 123) rfl)
theorem tb_364 : (Jvm.Cond.instanceMethod ({ cls := "SquareSymbols", name := "readSymbol", desc := "(I)I" } : Jvm.MethodName)) ∈ lw_g := lw_g_of (tx_in2 (List.mem_of_getElem? (i := 124) rfl)) rfl
theorem tb_365 : (Jvm.Cond.code ({ cls := "SquareSymbols", name := "readSymbol", desc := "(I)I" } : Jvm.MethodName) prog_1_method_19_code (7 : Nat) (Option.some Jvm.ClassFile.FieldType.int)) ∈ lw_g := lw_g_of (tx_in2 (List.mem_of_getElem? (i := 125) rfl)) rfl
theorem tb_366 : (Jvm.Cond.methodLink "SquareSymbols" (252 : Nat) ({ cls := "SquareSymbols$Frame", name := "formNumber", desc := "(LSquareSymbols$Grid;)I" } : Jvm.MethodName)) ∈ lw_g := lw_g_of (tx_in2 (List.mem_of_getElem? (i := 126) rfl)) rfl
theorem tb_367 : (Jvm.Cond.static ({ cls := "SquareSymbols$Frame", name := "formNumber", desc := "(LSquareSymbols$Grid;)I" } : Jvm.MethodName)) ∈ lw_g := lw_g_of (tx_in2 (List.mem_of_getElem? (i := 127) rfl)) rfl
theorem tb_368 : (Jvm.Cond.code ({ cls := "SquareSymbols$Frame", name := "formNumber", desc := "(LSquareSymbols$Grid;)I" } : Jvm.MethodName) prog_6_method_12_code (5 : Nat) (Option.some Jvm.ClassFile.FieldType.int)) ∈ lw_g := lw_g_of (tx_in2 (List.mem_of_getElem? (i := 128) rfl)) rfl
theorem tb_369 : (Jvm.Cond.methodLink "SquareSymbols$Frame" (77 : Nat) ({ cls := "SquareSymbols$Grid", name := "side", desc := "()I" } : Jvm.MethodName)) ∈ lw_g := lw_g_of (tx_in2 (List.mem_of_getElem? (i := 129) rfl)) rfl
theorem tb_370 : (Jvm.Cond.methodLink "SquareSymbols$Frame" (49 : Nat) ({ cls := "SquareSymbols$Frame", name := "formX", desc := "(III)I" } : Jvm.MethodName)) ∈ lw_g := lw_g_of (tx_in2 (List.mem_of_getElem? (i := 130) rfl)) rfl
theorem tb_371 : (Jvm.Cond.static ({ cls := "SquareSymbols$Frame", name := "formX", desc := "(III)I" } : Jvm.MethodName)) ∈ lw_g := lw_g_of (tx_in2 (List.mem_of_getElem? (i := 131) rfl)) rfl
theorem tb_372 : (Jvm.Cond.code ({ cls := "SquareSymbols$Frame", name := "formX", desc := "(III)I" } : Jvm.MethodName) prog_6_method_9_code (3 : Nat) (Option.some Jvm.ClassFile.FieldType.int)) ∈ lw_g := lw_g_of (tx_in2 (List.mem_of_getElem? (i := 132) rfl)) rfl
theorem tb_373 : (Jvm.Cond.methodLink "SquareSymbols$Frame" (53 : Nat) ({ cls := "SquareSymbols$Frame", name := "formY", desc := "(III)I" } : Jvm.MethodName)) ∈ lw_g := lw_g_of (tx_in2 (List.mem_of_getElem? (i := 133) rfl)) rfl
theorem tb_374 : (Jvm.Cond.static ({ cls := "SquareSymbols$Frame", name := "formY", desc := "(III)I" } : Jvm.MethodName)) ∈ lw_g := lw_g_of (tx_in2 (List.mem_of_getElem? (i := 134) rfl)) rfl
theorem tb_375 : (Jvm.Cond.code ({ cls := "SquareSymbols$Frame", name := "formY", desc := "(III)I" } : Jvm.MethodName) prog_6_method_10_code (3 : Nat) (Option.some Jvm.ClassFile.FieldType.int)) ∈ lw_g := lw_g_of (tx_in2 (List.mem_of_getElem? (i := 135) rfl)) rfl
theorem tb_376 : (Jvm.Cond.methodLink "SquareSymbols$Frame" (80 : Nat) ({ cls := "SquareSymbols$Grid", name := "isDark", desc := "(II)Z" } : Jvm.MethodName)) ∈ lw_g := lw_g_of (tx_in2 (List.mem_of_getElem? (i := 136) rfl)) rfl
theorem tb_377 : (Jvm.Cond.instanceMethod ({ cls := "SquareSymbols$Grid", name := "isDark", desc := "(II)Z" } : Jvm.MethodName)) ∈ lw_g := lw_g_of (tx_in2 (List.mem_of_getElem? (i := 137) rfl)) rfl
theorem tb_378 : (Jvm.Cond.selects "SquareSymbols$Grid" ({ cls := "SquareSymbols$Grid", name := "isDark", desc := "(II)Z" } : Jvm.MethodName) ({ cls := "SquareSymbols$Grid", name := "isDark", desc := "(II)Z" } : Jvm.MethodName)) ∈ lw_g := lw_g_of (tx_in2 (List.mem_of_getElem? (i := 138) rfl)) rfl
theorem tb_379 : (Jvm.Cond.code ({ cls := "SquareSymbols$Grid", name := "isDark", desc := "(II)Z" } : Jvm.MethodName) prog_7_method_6_code (3 : Nat) (Option.some Jvm.ClassFile.FieldType.boolean)) ∈ lw_g := lw_g_of (tx_in2 (List.mem_of_getElem? (i := 139) rfl)) rfl
theorem tb_380 : (Jvm.Cond.methodLink "SquareSymbols$Grid" (38 : Nat) ({ cls := "SquareSymbols$Grid", name := "isInside", desc := "(II)Z" } : Jvm.MethodName)) ∈ lw_g := lw_g_of (tx_in2 (List.mem_of_getElem? (i := 140) rfl)) rfl
theorem tx_381 : (Jvm.Cond.privateMethod ({ cls := "SquareSymbols$Grid", name := "isInside", desc := "(II)Z" } : Jvm.MethodName)) ∈ lw_tbl := tx_in2 (List.mem_of_getElem? (i := 141) rfl)
theorem tb_382 : (Jvm.Cond.instanceMethod ({ cls := "SquareSymbols$Grid", name := "isInside", desc := "(II)Z" } : Jvm.MethodName)) ∈ lw_g := lw_g_of (tx_in2 (List.mem_of_getElem? (i := 142) rfl)) rfl
theorem tb_383 : (Jvm.Cond.code ({ cls := "SquareSymbols$Grid", name := "isInside", desc := "(II)Z" } : Jvm.MethodName) prog_7_method_5_code (3 : Nat) (Option.some Jvm.ClassFile.FieldType.boolean)) ∈ lw_g := lw_g_of (tx_in2 (List.mem_of_getElem? (i := 143) rfl)) rfl
theorem tb_384 : (Jvm.Cond.methodLink "SquareSymbols$Frame" (74 : Nat) ({ cls := "SquareSymbols$Frame", name := "formWord", desc := "(I)I" } : Jvm.MethodName)) ∈ lw_g := lw_g_of (tx_in2 (List.mem_of_getElem? (i := 144) rfl)) rfl
theorem tb_385 : (Jvm.Cond.static ({ cls := "SquareSymbols$Frame", name := "formWord", desc := "(I)I" } : Jvm.MethodName)) ∈ lw_g := lw_g_of (tx_in2 (List.mem_of_getElem? (i := 145) rfl)) rfl
theorem tb_386 : (Jvm.Cond.code ({ cls := "SquareSymbols$Frame", name := "formWord", desc := "(I)I" } : Jvm.MethodName) prog_6_method_8_code (1 : Nat) (Option.some Jvm.ClassFile.FieldType.int)) ∈ lw_g := lw_g_of (tx_in2 (List.mem_of_getElem? (i := 146) rfl)) rfl
theorem tb_387 : (Jvm.Cond.methodLink "SquareSymbols$Frame" (71 : Nat) ({ cls := "SquareSymbols$Frame", name := "withRest", desc := "(III)I" } : Jvm.MethodName)) ∈ lw_g := lw_g_of (tx_in2 (List.mem_of_getElem? (i := 147) rfl)) rfl
theorem tb_388 : (Jvm.Cond.static ({ cls := "SquareSymbols$Frame", name := "withRest", desc := "(III)I" } : Jvm.MethodName)) ∈ lw_g := lw_g_of (tx_in2 (List.mem_of_getElem? (i := 148) rfl)) rfl
theorem tb_389 : (Jvm.Cond.code ({ cls := "SquareSymbols$Frame", name := "withRest", desc := "(III)I" } : Jvm.MethodName) prog_6_method_7_code (5 : Nat) (Option.some Jvm.ClassFile.FieldType.int)) ∈ lw_g := lw_g_of (tx_in2 (List.mem_of_getElem? (i := 149) rfl)) rfl
theorem tb_390 : (Jvm.Cond.methodLink "SquareSymbols$Frame" (84 : Nat) ({ cls := "java/lang/Integer", name := "bitCount", desc := "(I)I" } : Jvm.MethodName)) ∈ lw_g := lw_g_of (tx_in2 (List.mem_of_getElem? (i := 150) rfl)) rfl
theorem tb_391 : (Jvm.Cond.static ({ cls := "java/lang/Integer", name := "bitCount", desc := "(I)I" } : Jvm.MethodName)) ∈ lw_g := lw_g_of (tx_in2 (List.mem_of_getElem? (i := 151) rfl)) rfl
theorem tb_392 : (Jvm.Cond.code ({ cls := "java/lang/Integer", name := "bitCount", desc := "(I)I" } : Jvm.MethodName) prog_18_method_49_code (1 : Nat) (Option.some Jvm.ClassFile.FieldType.int)) ∈ lw_g := lw_g_of (tx_in2 (List.mem_of_getElem? (i := 152) rfl)) rfl
theorem tb_393 : (Jvm.Cond.constant "java/lang/Integer" (265 : Nat) (1431655765 : Int32)) ∈ lw_g := lw_g_of (tx_in2 (List.mem_of_getElem? (i := 153) rfl)) rfl
theorem tb_394 : (Jvm.Cond.constant "java/lang/Integer" (266 : Nat) (858993459 : Int32)) ∈ lw_g := lw_g_of (tx_in2 (List.mem_of_getElem? (i := 154) rfl)) rfl
theorem tb_395 : (Jvm.Cond.constant "java/lang/Integer" (267 : Nat) (252645135 : Int32)) ∈ lw_g := lw_g_of (tx_in2 (List.mem_of_getElem? (i := 155) rfl)) rfl
theorem tb_396 : (Jvm.Cond.methodLink "SquareSymbols" (206 : Nat) ({ cls := "SquareSymbols$Codewords", name := "begin", desc := "(II)V" } : Jvm.MethodName)) ∈ lw_g := lw_g_of (tx_in2 (List.mem_of_getElem? (i := 156) rfl)) rfl
theorem tb_397 : (Jvm.Cond.instanceMethod ({ cls := "SquareSymbols$Codewords", name := "begin", desc := "(II)V" } : Jvm.MethodName)) ∈ lw_g := lw_g_of (tx_in2 (List.mem_of_getElem? (i := 157) rfl)) rfl
theorem tb_398 : (Jvm.Cond.selects "SquareSymbols$Codewords" ({ cls := "SquareSymbols$Codewords", name := "begin", desc := "(II)V" } : Jvm.MethodName) ({ cls := "SquareSymbols$Codewords", name := "begin", desc := "(II)V" } : Jvm.MethodName)) ∈ lw_g := lw_g_of (tx_in2 (List.mem_of_getElem? (i := 158) rfl)) rfl
theorem tb_399 : (Jvm.Cond.code ({ cls := "SquareSymbols$Codewords", name := "begin", desc := "(II)V" } : Jvm.MethodName) prog_2_method_2_code (3 : Nat) (Option.none : Option Jvm.ClassFile.FieldType)) ∈ lw_g := lw_g_of (tx_in2 (List.mem_of_getElem? (i := 159) rfl)) rfl
theorem tb_400 : (Jvm.Cond.methodLink "SquareSymbols$Codewords" (31 : Nat) ({ cls := "SquareSymbols$Version", name := "codewords", desc := "(I)I" } : Jvm.MethodName)) ∈ lw_g := lw_g_of (tx_in2 (List.mem_of_getElem? (i := 160) rfl)) rfl
theorem tb_401 : (Jvm.Cond.static ({ cls := "SquareSymbols$Version", name := "codewords", desc := "(I)I" } : Jvm.MethodName)) ∈ lw_g := lw_g_of (tx_in2 (List.mem_of_getElem? (i := 161) rfl)) rfl
theorem tb_402 : (Jvm.Cond.code ({ cls := "SquareSymbols$Version", name := "codewords", desc := "(I)I" } : Jvm.MethodName) prog_12_method_6_code (3 : Nat) (Option.some Jvm.ClassFile.FieldType.int)) ∈ lw_g := lw_g_of (tx_in2 (List.mem_of_getElem? (i := 162) rfl)) rfl
theorem tb_403 : (Jvm.Cond.methodLink "SquareSymbols$Codewords" (40 : Nat) ({ cls := "SquareSymbols$Version", name := "holds", desc := "(II)I" } : Jvm.MethodName)) ∈ lw_g := lw_g_of (tx_in2 (List.mem_of_getElem? (i := 163) rfl)) rfl
theorem tb_404 : (Jvm.Cond.static ({ cls := "SquareSymbols$Version", name := "holds", desc := "(II)I" } : Jvm.MethodName)) ∈ lw_g := lw_g_of (tx_in2 (List.mem_of_getElem? (i := 164) rfl)) rfl
theorem tb_405 : (Jvm.Cond.code ({ cls := "SquareSymbols$Version", name := "holds", desc := "(II)I" } : Jvm.MethodName) prog_12_method_9_code (2 : Nat) (Option.some Jvm.ClassFile.FieldType.int)) ∈ lw_g := lw_g_of (tx_in2 (List.mem_of_getElem? (i := 165) rfl)) rfl
theorem tb_406 : (Jvm.Cond.methodLink "SquareSymbols$Version" (35 : Nat) ({ cls := "SquareSymbols$Version", name := "codewords", desc := "(I)I" } : Jvm.MethodName)) ∈ lw_g := lw_g_of (tx_in2 (List.mem_of_getElem? (i := 166) rfl)) rfl
theorem tb_407 : (Jvm.Cond.methodLink "SquareSymbols$Version" (38 : Nat) ({ cls := "SquareSymbols$Version", name := "blocks", desc := "(II)I" } : Jvm.MethodName)) ∈ lw_g := lw_g_of (tx_in2 (List.mem_of_getElem? (i := 167) rfl)) rfl
theorem tb_408 : (Jvm.Cond.static ({ cls := "SquareSymbols$Version", name := "blocks", desc := "(II)I" } : Jvm.MethodName)) ∈ lw_g := lw_g_of (tx_in2 (List.mem_of_getElem? (i := 168) rfl)) rfl
theorem tb_409 : (Jvm.Cond.code ({ cls := "SquareSymbols$Version", name := "blocks", desc := "(II)I" } : Jvm.MethodName) prog_12_method_8_code (2 : Nat) (Option.some Jvm.ClassFile.FieldType.int)) ∈ lw_g := lw_g_of (tx_in2 (List.mem_of_getElem? (i := 169) rfl)) rfl
theorem tb_410 : (Jvm.Cond.fieldLink "SquareSymbols$Version" (26 : Nat) "SquareSymbols$Version" "BLOCKS" "[I") ∈ lw_g := lw_g_of (tx_in2 (List.mem_of_getElem? (i := 170) rfl)) rfl
theorem tx_411 : (Jvm.Cond.laysStatic "SquareSymbols$Version" "BLOCKS" "[I") ∈ lw_tbl := tx_in2 (List.mem_of_getElem? (i := 171) rfl)
theorem tx_412 : (Jvm.Cond.methodLinkNest "SquareSymbols$Version" (19 : Nat) ({ cls := "SquareSymbols", name := "item", desc := "([II)I" } : Jvm.MethodName) "SquareSymbols") ∈ lw_tbl := tx_in2 (List.mem_of_getElem? (i := 172) rfl)
theorem tb_413 : (Jvm.Cond.static ({ cls := "SquareSymbols", name := "item", desc := "([II)I" } : Jvm.MethodName)) ∈ lw_g := lw_g_of (tx_in2 (List.mem_of_getElem? (i := 173) rfl)) rfl
theorem tb_414 : (Jvm.Cond.code ({ cls := "SquareSymbols", name := "item", desc := "([II)I" } : Jvm.MethodName) prog_1_method_20_code (2 : Nat) (Option.some Jvm.ClassFile.FieldType.int)) ∈ lw_g := lw_g_of (tx_in2 (List.mem_of_getElem? (i := 174) rfl)) rfl
theorem tb_415 : (Jvm.Cond.methodLink "SquareSymbols$Version" (29 : Nat) ({ cls := "java/lang/Math", name := "max", desc := "(II)I" } : Jvm.MethodName)) ∈ lw_g := lw_g_of (tx_in2 (List.mem_of_getElem? (i := 175) rfl)) rfl
theorem tb_416 : (Jvm.Cond.static ({ cls := "java/lang/Math", name := "max", desc := "(II)I" } : Jvm.MethodName)) ∈ lw_g := lw_g_of (tx_in2 (List.mem_of_getElem? (i := 176) rfl)) rfl
theorem tb_417 : (Jvm.Cond.code ({ cls := "java/lang/Math", name := "max", desc := "(II)I" } : Jvm.MethodName) prog_20_method_65_code (2 : Nat) (Option.some Jvm.ClassFile.FieldType.int)) ∈ lw_g := lw_g_of (tx_in2 (List.mem_of_getElem? (i := 177) rfl)) rfl
theorem tb_418 : (Jvm.Cond.methodLink "SquareSymbols$Version" (41 : Nat) ({ cls := "SquareSymbols$Version", name := "checks", desc := "(II)I" } : Jvm.MethodName)) ∈ lw_g := lw_g_of (tx_in2 (List.mem_of_getElem? (i := 178) rfl)) rfl
theorem tb_419 : (Jvm.Cond.static ({ cls := "SquareSymbols$Version", name := "checks", desc := "(II)I" } : Jvm.MethodName)) ∈ lw_g := lw_g_of (tx_in2 (List.mem_of_getElem? (i := 179) rfl)) rfl
theorem tb_420 : (Jvm.Cond.code ({ cls := "SquareSymbols$Version", name := "checks", desc := "(II)I" } : Jvm.MethodName) prog_12_method_7_code (2 : Nat) (Option.some Jvm.ClassFile.FieldType.int)) ∈ lw_g := lw_g_of (tx_in2 (List.mem_of_getElem? (i := 180) rfl)) rfl
theorem tb_421 : (Jvm.Cond.fieldLink "SquareSymbols$Version" (23 : Nat) "SquareSymbols$Version" "CHECKS" "[I") ∈ lw_g := lw_g_of (tx_in2 (List.mem_of_getElem? (i := 181) rfl)) rfl
theorem tx_422 : (Jvm.Cond.laysStatic "SquareSymbols$Version" "CHECKS" "[I") ∈ lw_tbl := tx_in2 (List.mem_of_getElem? (i := 182) rfl)
theorem tb_423 : (Jvm.Cond.methodLink "SquareSymbols$Codewords" (46 : Nat) ({ cls := "SquareSymbols$Version", name := "blocks", desc := "(II)I" } : Jvm.MethodName)) ∈ lw_g := lw_g_of (tx_in2 (List.mem_of_getElem? (i := 183) rfl)) rfl
theorem tb_424 : (Jvm.Cond.methodLink "SquareSymbols$Codewords" (48 : Nat) ({ cls := "java/lang/Math", name := "max", desc := "(II)I" } : Jvm.MethodName)) ∈ lw_g := lw_g_of (tx_in2 (List.mem_of_getElem? (i := 184) rfl)) rfl
theorem tb_425 : (Jvm.Cond.methodLink "SquareSymbols$Codewords" (53 : Nat) ({ cls := "SquareSymbols$Version", name := "checks", desc := "(II)I" } : Jvm.MethodName)) ∈ lw_g := lw_g_of (tx_in2 (List.mem_of_getElem? (i := 185) rfl)) rfl
theorem tb_426 : (Jvm.Cond.methodLink "SquareSymbols$Codewords" (56 : Nat) ({ cls := "java/lang/Math", name := "min", desc := "(II)I" } : Jvm.MethodName)) ∈ lw_g := lw_g_of (tx_in2 (List.mem_of_getElem? (i := 186) rfl)) rfl
theorem tb_427 : (Jvm.Cond.static ({ cls := "java/lang/Math", name := "min", desc := "(II)I" } : Jvm.MethodName)) ∈ lw_g := lw_g_of (tx_in2 (List.mem_of_getElem? (i := 187) rfl)) rfl
theorem tb_428 : (Jvm.Cond.code ({ cls := "java/lang/Math", name := "min", desc := "(II)I" } : Jvm.MethodName) prog_20_method_69_code (2 : Nat) (Option.some Jvm.ClassFile.FieldType.int)) ∈ lw_g := lw_g_of (tx_in2 (List.mem_of_getElem? (i := 188) rfl)) rfl
theorem tb_429 : (Jvm.Cond.methodLink "SquareSymbols" (126 : Nat) ({ cls := "SquareSymbols$Frame", name := "lay", desc := "(I)V" } : Jvm.MethodName)) ∈ lw_g := lw_g_of (tx_in2 (List.mem_of_getElem? (i := 189) rfl)) rfl
theorem tb_430 : (Jvm.Cond.instanceMethod ({ cls := "SquareSymbols$Frame", name := "lay", desc := "(I)V" } : Jvm.MethodName)) ∈ lw_g := lw_g_of (tx_in2 (List.mem_of_getElem? (i := 190) rfl)) rfl
theorem tb_431 : (Jvm.Cond.selects "SquareSymbols$Frame" ({ cls := "SquareSymbols$Frame", name := "lay", desc := "(I)V" } : Jvm.MethodName) ({ cls := "SquareSymbols$Frame", name := "lay", desc := "(I)V" } : Jvm.MethodName)) ∈ lw_g := lw_g_of (tx_in2 (List.mem_of_getElem? (i := 191) rfl)) rfl
theorem tb_432 : (Jvm.Cond.code ({ cls := "SquareSymbols$Frame", name := "lay", desc := "(I)V" } : Jvm.MethodName) prog_6_method_2_code (3 : Nat) (Option.none : Option Jvm.ClassFile.FieldType)) ∈ lw_g := lw_g_of (tx_in2 (List.mem_of_getElem? (i := 192) rfl)) rfl
theorem tb_433 : (Jvm.Cond.methodLink "SquareSymbols$Frame" (25 : Nat) ({ cls := "SquareSymbols$Version", name := "side", desc := "(I)I" } : Jvm.MethodName)) ∈ lw_g := lw_g_of (tx_in2 (List.mem_of_getElem? (i := 193) rfl)) rfl
theorem tb_434 : (Jvm.Cond.static ({ cls := "SquareSymbols$Version", name := "side", desc := "(I)I" } : Jvm.MethodName)) ∈ lw_g := lw_g_of (tx_in2 (List.mem_of_getElem? (i := 194) rfl)) rfl
theorem tb_435 : (Jvm.Cond.code ({ cls := "SquareSymbols$Version", name := "side", desc := "(I)I" } : Jvm.MethodName) prog_12_method_2_code (1 : Nat) (Option.some Jvm.ClassFile.FieldType.int)) ∈ lw_g := lw_g_of (tx_in2 (List.mem_of_getElem? (i := 195) rfl)) rfl
theorem tb_436 : (Jvm.Cond.methodLink "SquareSymbols$Frame" (34 : Nat) ({ cls := "SquareSymbols$Grid", name := "clear", desc := "(I)V" } : Jvm.MethodName)) ∈ lw_g := lw_g_of (tx_in2 (List.mem_of_getElem? (i := 196) rfl)) rfl
theorem tb_437 : (Jvm.Cond.instanceMethod ({ cls := "SquareSymbols$Grid", name := "clear", desc := "(I)V" } : Jvm.MethodName)) ∈ lw_g := lw_g_of (tx_in2 (List.mem_of_getElem? (i := 197) rfl)) rfl
theorem tb_438 : (Jvm.Cond.selects "SquareSymbols$Grid" ({ cls := "SquareSymbols$Grid", name := "clear", desc := "(I)V" } : Jvm.MethodName) ({ cls := "SquareSymbols$Grid", name := "clear", desc := "(I)V" } : Jvm.MethodName)) ∈ lw_g := lw_g_of (tx_in2 (List.mem_of_getElem? (i := 198) rfl)) rfl
theorem tb_439 : (Jvm.Cond.code ({ cls := "SquareSymbols$Grid", name := "clear", desc := "(I)V" } : Jvm.MethodName) prog_7_method_3_code (2 : Nat) (Option.none : Option Jvm.ClassFile.FieldType)) ∈ lw_g := lw_g_of (tx_in2 (List.mem_of_getElem? (i := 199) rfl)) rfl
theorem tb_440 : (Jvm.Cond.methodLink "SquareSymbols$Grid" (17 : Nat) ({ cls := "java/util/Arrays", name := "fill", desc := "([JJ)V" } : Jvm.MethodName)) ∈ lw_g := lw_g_of (tx_in2 (List.mem_of_getElem? (i := 200) rfl)) rfl
theorem tb_441 : (Jvm.Cond.static ({ cls := "java/util/Arrays", name := "fill", desc := "([JJ)V" } : Jvm.MethodName)) ∈ lw_g := lw_g_of (tx_in2 (List.mem_of_getElem? (i := 201) rfl)) rfl
theorem tb_442 : (Jvm.Cond.code ({ cls := "java/util/Arrays", name := "fill", desc := "([JJ)V" } : Jvm.MethodName) prog_27_method_101_code (5 : Nat) (Option.none : Option Jvm.ClassFile.FieldType)) ∈ lw_g := lw_g_of (tx_in2 (List.mem_of_getElem? (i := 202) rfl)) rfl
theorem tb_443 : (Jvm.Cond.methodLink "SquareSymbols$Grid" (23 : Nat) ({ cls := "java/lang/Math", name := "min", desc := "(II)I" } : Jvm.MethodName)) ∈ lw_g := lw_g_of (tx_in2 (List.mem_of_getElem? (i := 203) rfl)) rfl
theorem tb_444 : (Jvm.Cond.methodLink "SquareSymbols$Grid" (29 : Nat) ({ cls := "java/lang/Math", name := "max", desc := "(II)I" } : Jvm.MethodName)) ∈ lw_g := lw_g_of (tx_in2 (List.mem_of_getElem? (i := 204) rfl)) rfl
theorem tb_445 : (Jvm.Cond.methodLink "SquareSymbols$Frame" (38 : Nat) ({ cls := "SquareSymbols$Frame", name := "fix", desc := "(IIZ)V" } : Jvm.MethodName)) ∈ lw_g := lw_g_of (tx_in2 (List.mem_of_getElem? (i := 205) rfl)) rfl
theorem tx_446 : (Jvm.Cond.privateMethod ({ cls := "SquareSymbols$Frame", name := "fix", desc := "(IIZ)V" } : Jvm.MethodName)) ∈ lw_tbl := tx_in2 (List.mem_of_getElem? (i := 206) rfl)
theorem tb_447 : (Jvm.Cond.instanceMethod ({ cls := "SquareSymbols$Frame", name := "fix", desc := "(IIZ)V" } : Jvm.MethodName)) ∈ lw_g := lw_g_of (tx_in2 (List.mem_of_getElem? (i := 207) rfl)) rfl
theorem tb_448 : (Jvm.Cond.code ({ cls := "SquareSymbols$Frame", name := "fix", desc := "(IIZ)V" } : Jvm.MethodName) prog_6_method_3_code (4 : Nat) (Option.none : Option Jvm.ClassFile.FieldType)) ∈ lw_g := lw_g_of (tx_in2 (List.mem_of_getElem? (i := 208) rfl)) rfl
theorem tb_449 : (Jvm.Cond.methodLink "SquareSymbols$Frame" (59 : Nat) ({ cls := "SquareSymbols$Grid", name := "set", desc := "(IIZ)V" } : Jvm.MethodName)) ∈ lw_g := lw_g_of (tx_in2 (List.mem_of_getElem? (i := 209) rfl)) rfl
theorem tb_450 : (Jvm.Cond.instanceMethod ({ cls := "SquareSymbols$Grid", name := "set", desc := "(IIZ)V" } : Jvm.MethodName)) ∈ lw_g := lw_g_of (tx_in2 (List.mem_of_getElem? (i := 210) rfl)) rfl
theorem tb_451 : (Jvm.Cond.selects "SquareSymbols$Grid" ({ cls := "SquareSymbols$Grid", name := "set", desc := "(IIZ)V" } : Jvm.MethodName) ({ cls := "SquareSymbols$Grid", name := "set", desc := "(IIZ)V" } : Jvm.MethodName)) ∈ lw_g := lw_g_of (tx_in2 (List.mem_of_getElem? (i := 211) rfl)) rfl
theorem tb_452 : (Jvm.Cond.code ({ cls := "SquareSymbols$Grid", name := "set", desc := "(IIZ)V" } : Jvm.MethodName) prog_7_method_7_code (7 : Nat) (Option.none : Option Jvm.ClassFile.FieldType)) ∈ lw_g := lw_g_of (tx_in2 (List.mem_of_getElem? (i := 212) rfl)) rfl
theorem tb_453 : (Jvm.Cond.constantLong "SquareSymbols$Grid" (42 : Nat) (-1 : Int64)) ∈ lw_g := lw_g_of (tx_in2 (List.mem_of_getElem? (i := 213) rfl)) rfl
theorem tb_454 : (Jvm.Cond.methodLink "SquareSymbols$Frame" (42 : Nat) ({ cls := "SquareSymbols$Frame", name := "layRings", desc := "(IIII)V" } : Jvm.MethodName)) ∈ lw_g := lw_g_of (tx_in2 (List.mem_of_getElem? (i := 214) rfl)) rfl
theorem tx_455 : (Jvm.Cond.privateMethod ({ cls := "SquareSymbols$Frame", name := "layRings", desc := "(IIII)V" } : Jvm.MethodName)) ∈ lw_tbl := tx_in2 (List.mem_of_getElem? (i := 215) rfl)
theorem tb_456 : (Jvm.Cond.instanceMethod ({ cls := "SquareSymbols$Frame", name := "layRings", desc := "(IIII)V" } : Jvm.MethodName)) ∈ lw_g := lw_g_of (tx_in2 (List.mem_of_getElem? (i := 216) rfl)) rfl
theorem tb_457 : (Jvm.Cond.code ({ cls := "SquareSymbols$Frame", name := "layRings", desc := "(IIII)V" } : Jvm.MethodName) prog_6_method_4_code (8 : Nat) (Option.none : Option Jvm.ClassFile.FieldType)) ∈ lw_g := lw_g_of (tx_in2 (List.mem_of_getElem? (i := 217) rfl)) rfl
theorem tb_458 : (Jvm.Cond.methodLink "SquareSymbols$Frame" (62 : Nat) ({ cls := "java/lang/Math", name := "abs", desc := "(I)I" } : Jvm.MethodName)) ∈ lw_g := lw_g_of (tx_in2 (List.mem_of_getElem? (i := 218) rfl)) rfl
theorem tb_459 : (Jvm.Cond.static ({ cls := "java/lang/Math", name := "abs", desc := "(I)I" } : Jvm.MethodName)) ∈ lw_g := lw_g_of (tx_in2 (List.mem_of_getElem? (i := 219) rfl)) rfl
theorem tb_460 : (Jvm.Cond.code ({ cls := "java/lang/Math", name := "abs", desc := "(I)I" } : Jvm.MethodName) prog_20_method_59_code (1 : Nat) (Option.some Jvm.ClassFile.FieldType.int)) ∈ lw_g := lw_g_of (tx_in2 (List.mem_of_getElem? (i := 220) rfl)) rfl
theorem tb_461 : (Jvm.Cond.methodLink "SquareSymbols$Frame" (67 : Nat) ({ cls := "java/lang/Math", name := "max", desc := "(II)I" } : Jvm.MethodName)) ∈ lw_g := lw_g_of (tx_in2 (List.mem_of_getElem? (i := 221) rfl)) rfl
theorem tb_462 : (Jvm.Cond.methodLink "SquareSymbols$Frame" (46 : Nat) ({ cls := "SquareSymbols$Frame", name := "layAlignments", desc := "(I)V" } : Jvm.MethodName)) ∈ lw_g := lw_g_of (tx_in2 (List.mem_of_getElem? (i := 222) rfl)) rfl
theorem tx_463 : (Jvm.Cond.privateMethod ({ cls := "SquareSymbols$Frame", name := "layAlignments", desc := "(I)V" } : Jvm.MethodName)) ∈ lw_tbl := tx_in2 (List.mem_of_getElem? (i := 223) rfl)
theorem tb_464 : (Jvm.Cond.instanceMethod ({ cls := "SquareSymbols$Frame", name := "layAlignments", desc := "(I)V" } : Jvm.MethodName)) ∈ lw_g := lw_g_of (tx_in2 (List.mem_of_getElem? (i := 224) rfl)) rfl
theorem tb_465 : (Jvm.Cond.code ({ cls := "SquareSymbols$Frame", name := "layAlignments", desc := "(I)V" } : Jvm.MethodName) prog_6_method_5_code (10 : Nat) (Option.none : Option Jvm.ClassFile.FieldType)) ∈ lw_g := lw_g_of (tx_in2 (List.mem_of_getElem? (i := 225) rfl)) rfl
theorem tb_466 : (Jvm.Cond.methodLink "SquareSymbols$Frame" (56 : Nat) ({ cls := "SquareSymbols$Frame", name := "layVersion", desc := "(I)V" } : Jvm.MethodName)) ∈ lw_g := lw_g_of (tx_in2 (List.mem_of_getElem? (i := 226) rfl)) rfl
theorem tx_467 : (Jvm.Cond.privateMethod ({ cls := "SquareSymbols$Frame", name := "layVersion", desc := "(I)V" } : Jvm.MethodName)) ∈ lw_tbl := tx_in2 (List.mem_of_getElem? (i := 227) rfl)
theorem tb_468 : (Jvm.Cond.instanceMethod ({ cls := "SquareSymbols$Frame", name := "layVersion", desc := "(I)V" } : Jvm.MethodName)) ∈ lw_g := lw_g_of (tx_in2 (List.mem_of_getElem? (i := 228) rfl)) rfl
theorem tb_469 : (Jvm.Cond.code ({ cls := "SquareSymbols$Frame", name := "layVersion", desc := "(I)V" } : Jvm.MethodName) prog_6_method_6_code (5 : Nat) (Option.none : Option Jvm.ClassFile.FieldType)) ∈ lw_g := lw_g_of (tx_in2 (List.mem_of_getElem? (i := 229) rfl)) rfl
theorem tb_470 : (Jvm.Cond.methodLink "SquareSymbols" (245 : Nat) ({ cls := "SquareSymbols$Frame", name := "chooseMask", desc := "(I)V" } : Jvm.MethodName)) ∈ lw_g := lw_g_of (tx_in2 (List.mem_of_getElem? (i := 230) rfl)) rfl
theorem tb_471 : (Jvm.Cond.instanceMethod ({ cls := "SquareSymbols$Frame", name := "chooseMask", desc := "(I)V" } : Jvm.MethodName)) ∈ lw_g := lw_g_of (tx_in2 (List.mem_of_getElem? (i := 231) rfl)) rfl
theorem tb_472 : (Jvm.Cond.selects "SquareSymbols$Frame" ({ cls := "SquareSymbols$Frame", name := "chooseMask", desc := "(I)V" } : Jvm.MethodName) ({ cls := "SquareSymbols$Frame", name := "chooseMask", desc := "(I)V" } : Jvm.MethodName)) ∈ lw_g := lw_g_of (tx_in2 (List.mem_of_getElem? (i := 232) rfl)) rfl
theorem tb_473 : (Jvm.Cond.code ({ cls := "SquareSymbols$Frame", name := "chooseMask", desc := "(I)V" } : Jvm.MethodName) prog_6_method_16_code (4 : Nat) (Option.none : Option Jvm.ClassFile.FieldType)) ∈ lw_g := lw_g_of (tx_in2 (List.mem_of_getElem? (i := 233) rfl)) rfl
theorem tb_474 : (Jvm.Cond.methodLink "SquareSymbols$Frame" (116 : Nat) ({ cls := "java/util/Arrays", name := "fill", desc := "([JJ)V" } : Jvm.MethodName)) ∈ lw_g := lw_g_of (tx_in2 (List.mem_of_getElem? (i := 234) rfl)) rfl
theorem tb_475 : (Jvm.Cond.methodLink "SquareSymbols$Frame" (122 : Nat) ({ cls := "SquareSymbols$Frame", name := "isTurned", desc := "(III)Z" } : Jvm.MethodName)) ∈ lw_g := lw_g_of (tx_in2 (List.mem_of_getElem? (i := 235) rfl)) rfl
theorem tb_476 : (Jvm.Cond.static ({ cls := "SquareSymbols$Frame", name := "isTurned", desc := "(III)Z" } : Jvm.MethodName)) ∈ lw_g := lw_g_of (tx_in2 (List.mem_of_getElem? (i := 236) rfl)) rfl
theorem tb_477 : (Jvm.Cond.code ({ cls := "SquareSymbols$Frame", name := "isTurned", desc := "(III)Z" } : Jvm.MethodName) prog_6_method_17_code (3 : Nat) (Option.some Jvm.ClassFile.FieldType.boolean)) ∈ lw_g := lw_g_of (tx_in2 (List.mem_of_getElem? (i := 237) rfl)) rfl
theorem tb_478 : (Jvm.Cond.methodLink "SquareSymbols" (242 : Nat) ({ cls := "SquareSymbols$Frame", name := "turnMask", desc := "(LSquareSymbols$Grid;)V" } : Jvm.MethodName)) ∈ lw_g := lw_g_of (tx_in2 (List.mem_of_getElem? (i := 238) rfl)) rfl
theorem tb_479 : (Jvm.Cond.instanceMethod ({ cls := "SquareSymbols$Frame", name := "turnMask", desc := "(LSquareSymbols$Grid;)V" } : Jvm.MethodName)) ∈ lw_g := lw_g_of (tx_in2 (List.mem_of_getElem? (i := 239) rfl)) rfl
theorem tb_480 : (Jvm.Cond.selects "SquareSymbols$Frame" ({ cls := "SquareSymbols$Frame", name := "turnMask", desc := "(LSquareSymbols$Grid;)V" } : Jvm.MethodName) ({ cls := "SquareSymbols$Frame", name := "turnMask", desc := "(LSquareSymbols$Grid;)V" } : Jvm.MethodName)) ∈ lw_g := lw_g_of (tx_in3 (List.mem_of_getElem? (i := 0) rfl)) rfl
theorem tb_481 : (Jvm.Cond.code ({ cls := "SquareSymbols$Frame", name := "turnMask", desc := "(LSquareSymbols$Grid;)V" } : Jvm.MethodName) prog_6_method_18_code (6 : Nat) (Option.none : Option Jvm.ClassFile.FieldType)) ∈ lw_g := lw_g_of (tx_in3 (List.mem_of_getElem? (i := 1) rfl)) rfl
theorem tb_482 : (Jvm.Cond.methodLink "SquareSymbols$Frame" (126 : Nat) ({ cls := "SquareSymbols$Grid", name := "from", desc := "(II)J" } : Jvm.MethodName)) ∈ lw_g := lw_g_of (tx_in3 (List.mem_of_getElem? (i := 2) rfl)) rfl
theorem tb_483 : (Jvm.Cond.constantLong "SquareSymbols$Frame" (130 : Nat) (-1 : Int64)) ∈ lw_g := lw_g_of (tx_in3 (List.mem_of_getElem? (i := 3) rfl)) rfl
theorem tb_484 : (Jvm.Cond.methodLink "SquareSymbols$Frame" (132 : Nat) ({ cls := "SquareSymbols$Grid", name := "turn", desc := "(IIJ)I" } : Jvm.MethodName)) ∈ lw_g := lw_g_of (tx_in3 (List.mem_of_getElem? (i := 4) rfl)) rfl
theorem tb_485 : (Jvm.Cond.methodLink "SquareSymbols" (255 : Nat) ({ cls := "SquareSymbols$Frame", name := "takeCodewords", desc := "(LSquareSymbols$Grid;LSquareSymbols$Codewords;)V" } : Jvm.MethodName)) ∈ lw_g := lw_g_of (tx_in3 (List.mem_of_getElem? (i := 5) rfl)) rfl
theorem tb_486 : (Jvm.Cond.instanceMethod ({ cls := "SquareSymbols$Frame", name := "takeCodewords", desc := "(LSquareSymbols$Grid;LSquareSymbols$Codewords;)V" } : Jvm.MethodName)) ∈ lw_g := lw_g_of (tx_in3 (List.mem_of_getElem? (i := 6) rfl)) rfl
theorem tb_487 : (Jvm.Cond.selects "SquareSymbols$Frame" ({ cls := "SquareSymbols$Frame", name := "takeCodewords", desc := "(LSquareSymbols$Grid;LSquareSymbols$Codewords;)V" } : Jvm.MethodName) ({ cls := "SquareSymbols$Frame", name := "takeCodewords", desc := "(LSquareSymbols$Grid;LSquareSymbols$Codewords;)V" } : Jvm.MethodName)) ∈ lw_g := lw_g_of (tx_in3 (List.mem_of_getElem? (i := 7) rfl)) rfl
theorem tb_488 : (Jvm.Cond.code ({ cls := "SquareSymbols$Frame", name := "takeCodewords", desc := "(LSquareSymbols$Grid;LSquareSymbols$Codewords;)V" } : Jvm.MethodName) prog_6_method_14_code (6 : Nat) (Option.none : Option Jvm.ClassFile.FieldType)) ∈ lw_g := lw_g_of (tx_in3 (List.mem_of_getElem? (i := 8) rfl)) rfl
theorem tb_489 : (Jvm.Cond.methodLink "SquareSymbols$Frame" (92 : Nat) ({ cls := "SquareSymbols$Codewords", name := "total", desc := "()I" } : Jvm.MethodName)) ∈ lw_g := lw_g_of (tx_in3 (List.mem_of_getElem? (i := 9) rfl)) rfl
theorem tb_490 : (Jvm.Cond.instanceMethod ({ cls := "SquareSymbols$Codewords", name := "total", desc := "()I" } : Jvm.MethodName)) ∈ lw_g := lw_g_of (tx_in3 (List.mem_of_getElem? (i := 10) rfl)) rfl
theorem tb_491 : (Jvm.Cond.selects "SquareSymbols$Codewords" ({ cls := "SquareSymbols$Codewords", name := "total", desc := "()I" } : Jvm.MethodName) ({ cls := "SquareSymbols$Codewords", name := "total", desc := "()I" } : Jvm.MethodName)) ∈ lw_g := lw_g_of (tx_in3 (List.mem_of_getElem? (i := 11) rfl)) rfl
theorem tb_492 : (Jvm.Cond.code ({ cls := "SquareSymbols$Codewords", name := "total", desc := "()I" } : Jvm.MethodName) prog_2_method_3_code (1 : Nat) (Option.some Jvm.ClassFile.FieldType.int)) ∈ lw_g := lw_g_of (tx_in3 (List.mem_of_getElem? (i := 12) rfl)) rfl
