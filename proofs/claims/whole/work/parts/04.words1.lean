theorem gx_c1 {w : Cond} (h : w ∈ tables_1_1) (hg : goodWord w = true) : w ∈ gtbl := gx_w (List.mem_append_left _ h) hg
theorem gx_c2 {w : Cond} (h : w ∈ tables_1_2) (hg : goodWord w = true) : w ∈ gtbl := gx_w (List.mem_append_right _ (List.mem_append_left _ h)) hg
theorem gx_c3 {w : Cond} (h : w ∈ tables_1_3) (hg : goodWord w = true) : w ∈ gtbl := gx_w (List.mem_append_right _ (List.mem_append_right _ (List.mem_append_left _ h))) hg
theorem gx_c4 {w : Cond} (h : w ∈ tables_1_4) (hg : goodWord w = true) : w ∈ gtbl := gx_w (List.mem_append_right _ (List.mem_append_right _ (List.mem_append_right _ (List.mem_append_left _ h)))) hg
theorem gx_c5 {w : Cond} (h : w ∈ tables_1_5) (hg : goodWord w = true) : w ∈ gtbl := gx_w (List.mem_append_right _ (List.mem_append_right _ (List.mem_append_right _ (List.mem_append_right _ (List.mem_append_left _ h))))) hg
theorem gx_c6 {w : Cond} (h : w ∈ tables_1_6) (hg : goodWord w = true) : w ∈ gtbl := gx_w (List.mem_append_right _ (List.mem_append_right _ (List.mem_append_right _ (List.mem_append_right _ (List.mem_append_right _ (List.mem_append_left _ h)))))) hg
theorem gx_c7 {w : Cond} (h : w ∈ tables_1_7) (hg : goodWord w = true) : w ∈ gtbl := gx_w (List.mem_append_right _ (List.mem_append_right _ (List.mem_append_right _ (List.mem_append_right _ (List.mem_append_right _ (List.mem_append_right _ (List.mem_append_left _ h))))))) hg
theorem gx_c8 {w : Cond} (h : w ∈ tables_1_8) (hg : goodWord w = true) : w ∈ gtbl := gx_w (List.mem_append_right _ (List.mem_append_right _ (List.mem_append_right _ (List.mem_append_right _ (List.mem_append_right _ (List.mem_append_right _ (List.mem_append_right _ (h)))))))) hg
theorem wd_0 : (Jvm.Cond.initialized "NumberTextLaw") ∈ gtbl := gx_c1 (List.mem_of_getElem? (i := 0) (by decide +kernel)) rfl
theorem wd_1 : (Jvm.Cond.initialized "NumberText") ∈ gtbl := gx_c1 (List.mem_of_getElem? (i := 1) (by decide +kernel)) rfl
theorem wd_2 : (Jvm.Cond.initialized "NumberText$Bytes") ∈ gtbl := gx_c1 (List.mem_of_getElem? (i := 2) (by decide +kernel)) rfl
theorem wd_3 : (Jvm.Cond.initialized "NumberText$Arguments") ∈ gtbl := gx_c1 (List.mem_of_getElem? (i := 3) (by decide +kernel)) rfl
theorem wd_4 : (Jvm.Cond.initialized "NumberText$Reader") ∈ gtbl := gx_c1 (List.mem_of_getElem? (i := 4) (by decide +kernel)) rfl
theorem wd_5 : (Jvm.Cond.initialized "NumberText$Big") ∈ gtbl := gx_c1 (List.mem_of_getElem? (i := 5) (by decide +kernel)) rfl
theorem wd_6 : (Jvm.Cond.initialized "NumberText$Binary") ∈ gtbl := gx_c1 (List.mem_of_getElem? (i := 6) (by decide +kernel)) rfl
theorem wd_7 : (Jvm.Cond.initialized "java/lang/Enum") ∈ gtbl := gx_c1 (List.mem_of_getElem? (i := 7) (by decide +kernel)) rfl
theorem wd_8 : (Jvm.Cond.initialized "NumberText$Size") ∈ gtbl := gx_c1 (List.mem_of_getElem? (i := 8) (by decide +kernel)) rfl
theorem wd_9 : (Jvm.Cond.initialized "NumberText$Shortest") ∈ gtbl := gx_c1 (List.mem_of_getElem? (i := 9) (by decide +kernel)) rfl
theorem wd_10 : (Jvm.Cond.initialized "NumberText$Decimal") ∈ gtbl := gx_c1 (List.mem_of_getElem? (i := 10) (by decide +kernel)) rfl
theorem wd_11 : (Jvm.Cond.initialized "NumberText$Format") ∈ gtbl := gx_c1 (List.mem_of_getElem? (i := 11) (by decide +kernel)) rfl
theorem wd_12 : (Jvm.Cond.initialized "NumberText$Printer") ∈ gtbl := gx_c1 (List.mem_of_getElem? (i := 12) (by decide +kernel)) rfl
theorem wd_13 : (Jvm.Cond.initialized "NumberTextModel") ∈ gtbl := gx_c1 (List.mem_of_getElem? (i := 13) (by decide +kernel)) rfl
theorem wd_14 : (Jvm.Cond.initialized "NumberTextModel$Row") ∈ gtbl := gx_c1 (List.mem_of_getElem? (i := 14) (by decide +kernel)) rfl
theorem wd_15 : (Jvm.Cond.initialized "java/lang/Throwable") ∈ gtbl := gx_c1 (List.mem_of_getElem? (i := 15) (by decide +kernel)) rfl
theorem wd_16 : (Jvm.Cond.initialized "java/lang/Exception") ∈ gtbl := gx_c1 (List.mem_of_getElem? (i := 16) (by decide +kernel)) rfl
theorem wd_17 : (Jvm.Cond.initialized "java/lang/RuntimeException") ∈ gtbl := gx_c1 (List.mem_of_getElem? (i := 17) (by decide +kernel)) rfl
theorem wd_18 : (Jvm.Cond.initialized "java/lang/IndexOutOfBoundsException") ∈ gtbl := gx_c1 (List.mem_of_getElem? (i := 18) (by decide +kernel)) rfl
theorem wd_19 : (Jvm.Cond.initialized "java/lang/IllegalArgumentException") ∈ gtbl := gx_c1 (List.mem_of_getElem? (i := 19) (by decide +kernel)) rfl
theorem wd_20 : (Jvm.Cond.initialized "java/lang/Math") ∈ gtbl := gx_c1 (List.mem_of_getElem? (i := 20) (by decide +kernel)) rfl
theorem wd_21 : (Jvm.Cond.initialized "java/lang/String") ∈ gtbl := gx_c1 (List.mem_of_getElem? (i := 21) (by decide +kernel)) rfl
theorem wd_22 : (Jvm.Cond.initialized "java/lang/StringLatin1") ∈ gtbl := gx_c1 (List.mem_of_getElem? (i := 22) (by decide +kernel)) rfl
theorem wd_23 : (Jvm.Cond.initialized "jdk/internal/util/Preconditions") ∈ gtbl := gx_c1 (List.mem_of_getElem? (i := 23) (by decide +kernel)) rfl
theorem wd_24 : (Jvm.Cond.initialized "java/lang/StringUTF16") ∈ gtbl := gx_c1 (List.mem_of_getElem? (i := 24) (by decide +kernel)) rfl
theorem wd_25 : (Jvm.Cond.initialized "java/lang/Long") ∈ gtbl := gx_c1 (List.mem_of_getElem? (i := 25) (by decide +kernel)) rfl
theorem wd_26 : (Jvm.Cond.initialized "java/lang/Integer") ∈ gtbl := gx_c1 (List.mem_of_getElem? (i := 26) (by decide +kernel)) rfl
theorem wd_27 : (Jvm.Cond.initialized "java/lang/System") ∈ gtbl := gx_c1 (List.mem_of_getElem? (i := 27) (by decide +kernel)) rfl
theorem wd_28 : (Jvm.Cond.initialized "java/lang/UnsupportedOperationException") ∈ gtbl := gx_c1 (List.mem_of_getElem? (i := 28) (by decide +kernel)) rfl
theorem wd_29 : (Jvm.Cond.initialized "java/lang/Character") ∈ gtbl := gx_c1 (List.mem_of_getElem? (i := 29) (by decide +kernel)) rfl
theorem wd_30 : (Jvm.Cond.initialized "java/lang/IllegalStateException") ∈ gtbl := gx_c1 (List.mem_of_getElem? (i := 30) (by decide +kernel)) rfl
theorem wd_31 : (Jvm.Cond.initialized "java/util/NoSuchElementException") ∈ gtbl := gx_c1 (List.mem_of_getElem? (i := 31) (by decide +kernel)) rfl
theorem wd_32 : (Jvm.Cond.classLink "NumberTextLaw" (8 : Nat) "NumberText") ∈ gtbl := gx_c1 (List.mem_of_getElem? (i := 32) (by decide +kernel)) rfl
theorem wd_33 : (Jvm.Cond.instantiable "NumberText" (11 : Nat)) ∈ gtbl := gx_c1 (List.mem_of_getElem? (i := 33) (by decide +kernel)) rfl
theorem wd_34 : (Jvm.Cond.methodLink "NumberTextLaw" (59 : Nat) ({ cls := "NumberText", name := "<init>", desc := "()V" } : Jvm.MethodName)) ∈ gtbl := gx_c1 (List.mem_of_getElem? (i := 34) (by decide +kernel)) rfl
theorem wd_35 : (Jvm.Cond.instanceMethod ({ cls := "NumberText", name := "<init>", desc := "()V" } : Jvm.MethodName)) ∈ gtbl := gx_c1 (List.mem_of_getElem? (i := 35) (by decide +kernel)) rfl
theorem wd_36 : (Jvm.Cond.code ({ cls := "NumberText", name := "<init>", desc := "()V" } : Jvm.MethodName) prog_1_method_1_code (2 : Nat) (Option.none : Option FieldType)) ∈ gtbl := gx_c1 (List.mem_of_getElem? (i := 36) rfl) rfl
theorem wd_37 : (Jvm.Cond.methodLink "NumberText" (1 : Nat) ({ cls := "java/lang/Object", name := "<init>", desc := "()V" } : Jvm.MethodName)) ∈ gtbl := gx_c1 (List.mem_of_getElem? (i := 37) (by decide +kernel)) rfl
theorem wd_38 : (Jvm.Cond.instanceMethod ({ cls := "java/lang/Object", name := "<init>", desc := "()V" } : Jvm.MethodName)) ∈ gtbl := gx_c1 (List.mem_of_getElem? (i := 38) (by decide +kernel)) rfl
theorem wd_39 : (Jvm.Cond.code ({ cls := "java/lang/Object", name := "<init>", desc := "()V" } : Jvm.MethodName) object_method_1_code (1 : Nat) (Option.none : Option FieldType)) ∈ gtbl := gx_c1 (List.mem_of_getElem? (i := 39) rfl) rfl
theorem wd_40 : (Jvm.Cond.classLink "NumberText" (7 : Nat) "NumberText$Bytes") ∈ gtbl := gx_c1 (List.mem_of_getElem? (i := 40) (by decide +kernel)) rfl
theorem wd_41 : (Jvm.Cond.instantiable "NumberText$Bytes" (3 : Nat)) ∈ gtbl := gx_c1 (List.mem_of_getElem? (i := 41) (by decide +kernel)) rfl
theorem wd_42 : (Jvm.Cond.constant "NumberText" (11 : Nat) (65536 : Int32)) ∈ gtbl := gx_c1 (List.mem_of_getElem? (i := 42) (by decide +kernel)) rfl
theorem wd_43 : (Jvm.Cond.methodLink "NumberText" (12 : Nat) ({ cls := "NumberText$Bytes", name := "<init>", desc := "(I)V" } : Jvm.MethodName)) ∈ gtbl := gx_c1 (List.mem_of_getElem? (i := 43) (by decide +kernel)) rfl
theorem wd_44 : (Jvm.Cond.instanceMethod ({ cls := "NumberText$Bytes", name := "<init>", desc := "(I)V" } : Jvm.MethodName)) ∈ gtbl := gx_c1 (List.mem_of_getElem? (i := 44) (by decide +kernel)) rfl
theorem wd_45 : (Jvm.Cond.code ({ cls := "NumberText$Bytes", name := "<init>", desc := "(I)V" } : Jvm.MethodName) prog_5_method_1_code (2 : Nat) (Option.none : Option FieldType)) ∈ gtbl := gx_c1 (List.mem_of_getElem? (i := 45) rfl) rfl
theorem wd_46 : (Jvm.Cond.methodLink "NumberText$Bytes" (3 : Nat) ({ cls := "java/lang/Object", name := "<init>", desc := "()V" } : Jvm.MethodName)) ∈ gtbl := gx_c1 (List.mem_of_getElem? (i := 46) (by decide +kernel)) rfl
theorem wd_47 : (Jvm.Cond.fieldLink "NumberText$Bytes" (19 : Nat) "NumberText$Bytes" "row" "[B") ∈ gtbl := gx_c1 (List.mem_of_getElem? (i := 47) (by decide +kernel)) rfl
theorem wd_48 : (Jvm.Cond.fieldLink "NumberText$Bytes" (9 : Nat) "NumberText$Bytes" "length" "I") ∈ gtbl := gx_c1 (List.mem_of_getElem? (i := 48) (by decide +kernel)) rfl
theorem wd_49 : (Jvm.Cond.fieldLink "NumberText" (80 : Nat) "NumberText$Bytes" "length" "I") ∈ gtbl := gx_c1 (List.mem_of_getElem? (i := 49) (by decide +kernel)) rfl
theorem wd_50 : (Jvm.Cond.fieldLink "NumberText$Format" (53 : Nat) "NumberText$Bytes" "length" "I") ∈ gtbl := gx_c1 (List.mem_of_getElem? (i := 50) (by decide +kernel)) rfl
theorem wd_51 : (Jvm.Cond.fieldLink "NumberText$Reader" (112 : Nat) "NumberText$Bytes" "length" "I") ∈ gtbl := gx_c1 (List.mem_of_getElem? (i := 51) (by decide +kernel)) rfl
theorem wd_52 : (Jvm.Cond.fieldLink "NumberText$Printer" (315 : Nat) "NumberText$Bytes" "length" "I") ∈ gtbl := gx_c1 (List.mem_of_getElem? (i := 52) (by decide +kernel)) rfl
theorem wd_53 : (Jvm.Cond.fieldLink "NumberText$Bytes" (15 : Nat) "NumberText$Bytes" "over" "Z") ∈ gtbl := gx_c1 (List.mem_of_getElem? (i := 53) (by decide +kernel)) rfl
theorem wd_54 : (Jvm.Cond.fieldLink "NumberText$Printer" (126 : Nat) "NumberText$Bytes" "over" "Z") ∈ gtbl := gx_c1 (List.mem_of_getElem? (i := 54) (by decide +kernel)) rfl
theorem wd_55 : (Jvm.Cond.fieldLink "NumberText" (217 : Nat) "NumberText$Bytes" "over" "Z") ∈ gtbl := gx_c1 (List.mem_of_getElem? (i := 55) (by decide +kernel)) rfl
theorem wd_56 : (Jvm.Cond.laysFinal "NumberText$Bytes" "NumberText$Bytes" "row" "[B") ∈ gtbl := gx_c1 (List.mem_of_getElem? (i := 56) (by decide +kernel)) rfl
theorem wd_57 : (Jvm.Cond.soleField "NumberText$Bytes" "row") ∈ gtbl := gx_c1 (List.mem_of_getElem? (i := 57) (by decide +kernel)) rfl
theorem wd_58 : (Jvm.Cond.lays "NumberText$Bytes" "NumberText$Bytes" "length" "I") ∈ gtbl := gx_c1 (List.mem_of_getElem? (i := 58) (by decide +kernel)) rfl
theorem wd_59 : (Jvm.Cond.soleField "NumberText$Bytes" "length") ∈ gtbl := gx_c1 (List.mem_of_getElem? (i := 59) (by decide +kernel)) rfl
theorem wd_60 : (Jvm.Cond.lays "NumberText$Bytes" "NumberText$Bytes" "over" "Z") ∈ gtbl := gx_c1 (List.mem_of_getElem? (i := 60) (by decide +kernel)) rfl
theorem wd_61 : (Jvm.Cond.soleField "NumberText$Bytes" "over") ∈ gtbl := gx_c1 (List.mem_of_getElem? (i := 61) (by decide +kernel)) rfl
theorem wd_62 : (Jvm.Cond.superclass "NumberText$Bytes" "java/lang/Object") ∈ gtbl := gx_c1 (List.mem_of_getElem? (i := 62) (by decide +kernel)) rfl
theorem wd_63 : (Jvm.Cond.arrayClass FieldType.byte) ∈ gtbl := gx_c1 (List.mem_of_getElem? (i := 63) (by decide +kernel)) rfl
theorem wd_64 : (Jvm.Cond.constant "NumberText" (19 : Nat) (32768 : Int32)) ∈ gtbl := gx_c1 (List.mem_of_getElem? (i := 64) (by decide +kernel)) rfl
theorem wd_65 : (Jvm.Cond.classLink "NumberText" (23 : Nat) "NumberText$Arguments") ∈ gtbl := gx_c1 (List.mem_of_getElem? (i := 65) (by decide +kernel)) rfl
theorem wd_66 : (Jvm.Cond.instantiable "NumberText$Arguments" (4 : Nat)) ∈ gtbl := gx_c1 (List.mem_of_getElem? (i := 66) (by decide +kernel)) rfl
theorem wd_67 : (Jvm.Cond.methodLink "NumberText" (25 : Nat) ({ cls := "NumberText$Arguments", name := "<init>", desc := "()V" } : Jvm.MethodName)) ∈ gtbl := gx_c1 (List.mem_of_getElem? (i := 67) (by decide +kernel)) rfl
theorem wd_68 : (Jvm.Cond.instanceMethod ({ cls := "NumberText$Arguments", name := "<init>", desc := "()V" } : Jvm.MethodName)) ∈ gtbl := gx_c1 (List.mem_of_getElem? (i := 68) (by decide +kernel)) rfl
theorem wd_69 : (Jvm.Cond.code ({ cls := "NumberText$Arguments", name := "<init>", desc := "()V" } : Jvm.MethodName) prog_2_method_1_code (2 : Nat) (Option.none : Option FieldType)) ∈ gtbl := gx_c1 (List.mem_of_getElem? (i := 69) rfl) rfl
theorem wd_70 : (Jvm.Cond.methodLink "NumberText$Arguments" (3 : Nat) ({ cls := "java/lang/Object", name := "<init>", desc := "()V" } : Jvm.MethodName)) ∈ gtbl := gx_c1 (List.mem_of_getElem? (i := 70) (by decide +kernel)) rfl
theorem wd_71 : (Jvm.Cond.classLink "NumberText$Arguments" (19 : Nat) "NumberText$Bytes") ∈ gtbl := gx_c1 (List.mem_of_getElem? (i := 71) (by decide +kernel)) rfl
theorem wd_73 : (Jvm.Cond.methodLink "NumberText$Arguments" (29 : Nat) ({ cls := "NumberText$Bytes", name := "<init>", desc := "(I)V" } : Jvm.MethodName)) ∈ gtbl := gx_c1 (List.mem_of_getElem? (i := 73) (by decide +kernel)) rfl
theorem wd_74 : (Jvm.Cond.fieldLink "NumberText$Arguments" (9 : Nat) "NumberText$Arguments" "kinds" "[I") ∈ gtbl := gx_c1 (List.mem_of_getElem? (i := 74) (by decide +kernel)) rfl
theorem wd_75 : (Jvm.Cond.fieldLink "NumberText$Printer" (105 : Nat) "NumberText$Arguments" "kinds" "[I") ∈ gtbl := gx_c1 (List.mem_of_getElem? (i := 75) (by decide +kernel)) rfl
theorem wd_76 : (Jvm.Cond.fieldLink "NumberText$Arguments" (15 : Nat) "NumberText$Arguments" "values" "[J") ∈ gtbl := gx_c1 (List.mem_of_getElem? (i := 76) (by decide +kernel)) rfl
theorem wd_77 : (Jvm.Cond.fieldLink "NumberText$Printer" (108 : Nat) "NumberText$Arguments" "values" "[J") ∈ gtbl := gx_c1 (List.mem_of_getElem? (i := 77) (by decide +kernel)) rfl
theorem wd_78 : (Jvm.Cond.fieldLink "NumberText$Arguments" (21 : Nat) "NumberText$Arguments" "texts" "[LNumberText$Bytes;") ∈ gtbl := gx_c1 (List.mem_of_getElem? (i := 78) (by decide +kernel)) rfl
theorem wd_79 : (Jvm.Cond.fieldLink "NumberText$Printer" (150 : Nat) "NumberText$Arguments" "texts" "[LNumberText$Bytes;") ∈ gtbl := gx_c1 (List.mem_of_getElem? (i := 79) (by decide +kernel)) rfl
theorem wd_80 : (Jvm.Cond.fieldLink "NumberText$Arguments" (25 : Nat) "NumberText$Arguments" "size" "I") ∈ gtbl := gx_c1 (List.mem_of_getElem? (i := 80) (by decide +kernel)) rfl
theorem wd_81 : (Jvm.Cond.fieldLink "NumberText$Printer" (100 : Nat) "NumberText$Arguments" "size" "I") ∈ gtbl := gx_c1 (List.mem_of_getElem? (i := 81) (by decide +kernel)) rfl
theorem wd_82 : (Jvm.Cond.fieldLink "NumberText" (151 : Nat) "NumberText$Arguments" "size" "I") ∈ gtbl := gx_c1 (List.mem_of_getElem? (i := 82) (by decide +kernel)) rfl
theorem wd_83 : (Jvm.Cond.laysFinal "NumberText$Arguments" "NumberText$Arguments" "kinds" "[I") ∈ gtbl := gx_c1 (List.mem_of_getElem? (i := 83) (by decide +kernel)) rfl
theorem wd_84 : (Jvm.Cond.soleField "NumberText$Arguments" "kinds") ∈ gtbl := gx_c1 (List.mem_of_getElem? (i := 84) (by decide +kernel)) rfl
theorem wd_85 : (Jvm.Cond.laysFinal "NumberText$Arguments" "NumberText$Arguments" "values" "[J") ∈ gtbl := gx_c1 (List.mem_of_getElem? (i := 85) (by decide +kernel)) rfl
theorem wd_86 : (Jvm.Cond.soleField "NumberText$Arguments" "values") ∈ gtbl := gx_c1 (List.mem_of_getElem? (i := 86) (by decide +kernel)) rfl
theorem wd_87 : (Jvm.Cond.laysFinal "NumberText$Arguments" "NumberText$Arguments" "texts" "[LNumberText$Bytes;") ∈ gtbl := gx_c1 (List.mem_of_getElem? (i := 87) (by decide +kernel)) rfl
theorem wd_88 : (Jvm.Cond.soleField "NumberText$Arguments" "texts") ∈ gtbl := gx_c1 (List.mem_of_getElem? (i := 88) (by decide +kernel)) rfl
theorem wd_89 : (Jvm.Cond.lays "NumberText$Arguments" "NumberText$Arguments" "size" "I") ∈ gtbl := gx_c1 (List.mem_of_getElem? (i := 89) (by decide +kernel)) rfl
theorem wd_90 : (Jvm.Cond.soleField "NumberText$Arguments" "size") ∈ gtbl := gx_c1 (List.mem_of_getElem? (i := 90) (by decide +kernel)) rfl
theorem wd_91 : (Jvm.Cond.superclass "NumberText$Arguments" "java/lang/Object") ∈ gtbl := gx_c1 (List.mem_of_getElem? (i := 91) (by decide +kernel)) rfl
theorem wd_92 : (Jvm.Cond.arrayClass FieldType.int) ∈ gtbl := gx_c1 (List.mem_of_getElem? (i := 92) (by decide +kernel)) rfl
theorem wd_93 : (Jvm.Cond.arrayClass FieldType.long) ∈ gtbl := gx_c1 (List.mem_of_getElem? (i := 93) (by decide +kernel)) rfl
theorem wd_94 : (Jvm.Cond.classLink "NumberText" (30 : Nat) "NumberText$Reader") ∈ gtbl := gx_c1 (List.mem_of_getElem? (i := 94) (by decide +kernel)) rfl
theorem wd_95 : (Jvm.Cond.instantiable "NumberText$Reader" (14 : Nat)) ∈ gtbl := gx_c1 (List.mem_of_getElem? (i := 95) (by decide +kernel)) rfl
theorem wd_96 : (Jvm.Cond.methodLink "NumberText" (32 : Nat) ({ cls := "NumberText$Reader", name := "<init>", desc := "(LNumberText$Bytes;)V" } : Jvm.MethodName)) ∈ gtbl := gx_c1 (List.mem_of_getElem? (i := 96) (by decide +kernel)) rfl
theorem wd_97 : (Jvm.Cond.instanceMethod ({ cls := "NumberText$Reader", name := "<init>", desc := "(LNumberText$Bytes;)V" } : Jvm.MethodName)) ∈ gtbl := gx_c1 (List.mem_of_getElem? (i := 97) (by decide +kernel)) rfl
theorem wd_98 : (Jvm.Cond.code ({ cls := "NumberText$Reader", name := "<init>", desc := "(LNumberText$Bytes;)V" } : Jvm.MethodName) prog_9_method_1_code (2 : Nat) (Option.none : Option FieldType)) ∈ gtbl := gx_c1 (List.mem_of_getElem? (i := 98) rfl) rfl
theorem wd_99 : (Jvm.Cond.methodLink "NumberText$Reader" (3 : Nat) ({ cls := "java/lang/Object", name := "<init>", desc := "()V" } : Jvm.MethodName)) ∈ gtbl := gx_c1 (List.mem_of_getElem? (i := 99) (by decide +kernel)) rfl
theorem wd_100 : (Jvm.Cond.classLink "NumberText$Reader" (9 : Nat) "NumberText$Big") ∈ gtbl := gx_c1 (List.mem_of_getElem? (i := 100) (by decide +kernel)) rfl
theorem wd_101 : (Jvm.Cond.instantiable "NumberText$Big" (2 : Nat)) ∈ gtbl := gx_c1 (List.mem_of_getElem? (i := 101) (by decide +kernel)) rfl
theorem wd_103 : (Jvm.Cond.instanceMethod ({ cls := "NumberText$Big", name := "<init>", desc := "()V" } : Jvm.MethodName)) ∈ gtbl := gx_c1 (List.mem_of_getElem? (i := 103) (by decide +kernel)) rfl
theorem wd_104 : (Jvm.Cond.code ({ cls := "NumberText$Big", name := "<init>", desc := "()V" } : Jvm.MethodName) prog_3_method_1_code (1 : Nat) (Option.none : Option FieldType)) ∈ gtbl := gx_c1 (List.mem_of_getElem? (i := 104) rfl) rfl
theorem wd_105 : (Jvm.Cond.methodLink "NumberText$Big" (1 : Nat) ({ cls := "java/lang/Object", name := "<init>", desc := "()V" } : Jvm.MethodName)) ∈ gtbl := gx_c1 (List.mem_of_getElem? (i := 105) (by decide +kernel)) rfl
theorem wd_106 : (Jvm.Cond.fieldLink "NumberText$Big" (9 : Nat) "NumberText$Big" "limbs" "[I") ∈ gtbl := gx_c1 (List.mem_of_getElem? (i := 106) (by decide +kernel)) rfl
theorem wd_107 : (Jvm.Cond.fieldLink "NumberText$Big" (13 : Nat) "NumberText$Big" "size" "I") ∈ gtbl := gx_c1 (List.mem_of_getElem? (i := 107) (by decide +kernel)) rfl
theorem wd_108 : (Jvm.Cond.fieldLink "NumberText$Shortest" (173 : Nat) "NumberText$Big" "size" "I") ∈ gtbl := gx_c1 (List.mem_of_getElem? (i := 108) (by decide +kernel)) rfl
theorem wd_109 : (Jvm.Cond.laysFinal "NumberText$Big" "NumberText$Big" "limbs" "[I") ∈ gtbl := gx_c1 (List.mem_of_getElem? (i := 109) (by decide +kernel)) rfl
theorem wd_110 : (Jvm.Cond.soleField "NumberText$Big" "limbs") ∈ gtbl := gx_c1 (List.mem_of_getElem? (i := 110) (by decide +kernel)) rfl
theorem wd_111 : (Jvm.Cond.lays "NumberText$Big" "NumberText$Big" "size" "I") ∈ gtbl := gx_c1 (List.mem_of_getElem? (i := 111) (by decide +kernel)) rfl
theorem wd_112 : (Jvm.Cond.soleField "NumberText$Big" "size") ∈ gtbl := gx_c1 (List.mem_of_getElem? (i := 112) (by decide +kernel)) rfl
theorem wd_113 : (Jvm.Cond.superclass "NumberText$Big" "java/lang/Object") ∈ gtbl := gx_c1 (List.mem_of_getElem? (i := 113) (by decide +kernel)) rfl
theorem wd_114 : (Jvm.Cond.fieldLink "NumberText$Reader" (12 : Nat) "NumberText$Reader" "number" "LNumberText$Big;") ∈ gtbl := gx_c1 (List.mem_of_getElem? (i := 114) (by decide +kernel)) rfl
theorem wd_115 : (Jvm.Cond.fieldLink "NumberText$Reader" (18 : Nat) "NumberText$Reader" "divisor" "LNumberText$Big;") ∈ gtbl := gx_c1 (List.mem_of_getElem? (i := 115) (by decide +kernel)) rfl
theorem wd_116 : (Jvm.Cond.fieldLink "NumberText$Reader" (57 : Nat) "NumberText$Reader" "source" "LNumberText$Bytes;") ∈ gtbl := gx_c1 (List.mem_of_getElem? (i := 116) (by decide +kernel)) rfl
theorem wd_117 : (Jvm.Cond.fieldLink "NumberText$Reader" (21 : Nat) "NumberText$Reader" "at" "I") ∈ gtbl := gx_c1 (List.mem_of_getElem? (i := 117) (by decide +kernel)) rfl
theorem wd_118 : (Jvm.Cond.fieldLink "NumberText$Reader" (25 : Nat) "NumberText$Reader" "stop" "I") ∈ gtbl := gx_c1 (List.mem_of_getElem? (i := 118) (by decide +kernel)) rfl
theorem wd_119 : (Jvm.Cond.fieldLink "NumberText$Reader" (28 : Nat) "NumberText$Reader" "form" "I") ∈ gtbl := gx_c1 (List.mem_of_getElem? (i := 119) (by decide +kernel)) rfl
theorem wd_120 : (Jvm.Cond.fieldLink "NumberText$Reader" (31 : Nat) "NumberText$Reader" "negative" "Z") ∈ gtbl := gx_c1 (List.mem_of_getElem? (i := 120) (by decide +kernel)) rfl
theorem wd_121 : (Jvm.Cond.fieldLink "NumberText$Reader" (35 : Nat) "NumberText$Reader" "mantissa" "J") ∈ gtbl := gx_c1 (List.mem_of_getElem? (i := 121) (by decide +kernel)) rfl
theorem wd_122 : (Jvm.Cond.fieldLink "NumberText$Reader" (39 : Nat) "NumberText$Reader" "power" "I") ∈ gtbl := gx_c1 (List.mem_of_getElem? (i := 122) (by decide +kernel)) rfl
theorem wd_123 : (Jvm.Cond.fieldLink "NumberText$Reader" (42 : Nat) "NumberText$Reader" "kept" "I") ∈ gtbl := gx_c1 (List.mem_of_getElem? (i := 123) (by decide +kernel)) rfl
theorem wd_124 : (Jvm.Cond.fieldLink "NumberText$Reader" (45 : Nat) "NumberText$Reader" "lost" "Z") ∈ gtbl := gx_c1 (List.mem_of_getElem? (i := 124) (by decide +kernel)) rfl
theorem wd_125 : (Jvm.Cond.fieldLink "NumberText$Reader" (48 : Nat) "NumberText$Reader" "exponent" "I") ∈ gtbl := gx_c1 (List.mem_of_getElem? (i := 125) (by decide +kernel)) rfl
theorem wd_126 : (Jvm.Cond.fieldLink "NumberText$Reader" (51 : Nat) "NumberText$Reader" "chunk" "I") ∈ gtbl := gx_c1 (List.mem_of_getElem? (i := 126) (by decide +kernel)) rfl
theorem wd_127 : (Jvm.Cond.fieldLink "NumberText$Reader" (54 : Nat) "NumberText$Reader" "chunkUnit" "I") ∈ gtbl := gx_c1 (List.mem_of_getElem? (i := 127) (by decide +kernel)) rfl
theorem wd_128 : (Jvm.Cond.laysFinal "NumberText$Reader" "NumberText$Reader" "number" "LNumberText$Big;") ∈ gtbl := gx_c1 (List.mem_of_getElem? (i := 128) (by decide +kernel)) rfl
theorem wd_129 : (Jvm.Cond.soleField "NumberText$Reader" "number") ∈ gtbl := gx_c1 (List.mem_of_getElem? (i := 129) (by decide +kernel)) rfl
theorem wd_130 : (Jvm.Cond.laysFinal "NumberText$Reader" "NumberText$Reader" "divisor" "LNumberText$Big;") ∈ gtbl := gx_c1 (List.mem_of_getElem? (i := 130) (by decide +kernel)) rfl
theorem wd_131 : (Jvm.Cond.soleField "NumberText$Reader" "divisor") ∈ gtbl := gx_c1 (List.mem_of_getElem? (i := 131) (by decide +kernel)) rfl
theorem wd_132 : (Jvm.Cond.laysFinal "NumberText$Reader" "NumberText$Reader" "source" "LNumberText$Bytes;") ∈ gtbl := gx_c1 (List.mem_of_getElem? (i := 132) (by decide +kernel)) rfl
theorem wd_133 : (Jvm.Cond.soleField "NumberText$Reader" "source") ∈ gtbl := gx_c1 (List.mem_of_getElem? (i := 133) (by decide +kernel)) rfl
theorem wd_134 : (Jvm.Cond.lays "NumberText$Reader" "NumberText$Reader" "at" "I") ∈ gtbl := gx_c1 (List.mem_of_getElem? (i := 134) (by decide +kernel)) rfl
theorem wd_135 : (Jvm.Cond.soleField "NumberText$Reader" "at") ∈ gtbl := gx_c1 (List.mem_of_getElem? (i := 135) (by decide +kernel)) rfl
theorem wd_136 : (Jvm.Cond.lays "NumberText$Reader" "NumberText$Reader" "stop" "I") ∈ gtbl := gx_c1 (List.mem_of_getElem? (i := 136) (by decide +kernel)) rfl
theorem wd_137 : (Jvm.Cond.soleField "NumberText$Reader" "stop") ∈ gtbl := gx_c1 (List.mem_of_getElem? (i := 137) (by decide +kernel)) rfl
theorem wd_138 : (Jvm.Cond.lays "NumberText$Reader" "NumberText$Reader" "form" "I") ∈ gtbl := gx_c1 (List.mem_of_getElem? (i := 138) (by decide +kernel)) rfl
theorem wd_139 : (Jvm.Cond.soleField "NumberText$Reader" "form") ∈ gtbl := gx_c1 (List.mem_of_getElem? (i := 139) (by decide +kernel)) rfl
theorem wd_140 : (Jvm.Cond.lays "NumberText$Reader" "NumberText$Reader" "negative" "Z") ∈ gtbl := gx_c1 (List.mem_of_getElem? (i := 140) (by decide +kernel)) rfl
theorem wd_141 : (Jvm.Cond.soleField "NumberText$Reader" "negative") ∈ gtbl := gx_c1 (List.mem_of_getElem? (i := 141) (by decide +kernel)) rfl
theorem wd_142 : (Jvm.Cond.lays "NumberText$Reader" "NumberText$Reader" "mantissa" "J") ∈ gtbl := gx_c1 (List.mem_of_getElem? (i := 142) (by decide +kernel)) rfl
theorem wd_143 : (Jvm.Cond.soleField "NumberText$Reader" "mantissa") ∈ gtbl := gx_c1 (List.mem_of_getElem? (i := 143) (by decide +kernel)) rfl
theorem wd_144 : (Jvm.Cond.lays "NumberText$Reader" "NumberText$Reader" "power" "I") ∈ gtbl := gx_c1 (List.mem_of_getElem? (i := 144) (by decide +kernel)) rfl
theorem wd_145 : (Jvm.Cond.soleField "NumberText$Reader" "power") ∈ gtbl := gx_c1 (List.mem_of_getElem? (i := 145) (by decide +kernel)) rfl
theorem wd_146 : (Jvm.Cond.lays "NumberText$Reader" "NumberText$Reader" "kept" "I") ∈ gtbl := gx_c1 (List.mem_of_getElem? (i := 146) (by decide +kernel)) rfl
theorem wd_147 : (Jvm.Cond.soleField "NumberText$Reader" "kept") ∈ gtbl := gx_c1 (List.mem_of_getElem? (i := 147) (by decide +kernel)) rfl
theorem wd_148 : (Jvm.Cond.lays "NumberText$Reader" "NumberText$Reader" "lost" "Z") ∈ gtbl := gx_c1 (List.mem_of_getElem? (i := 148) (by decide +kernel)) rfl
theorem wd_149 : (Jvm.Cond.soleField "NumberText$Reader" "lost") ∈ gtbl := gx_c1 (List.mem_of_getElem? (i := 149) (by decide +kernel)) rfl
theorem wd_150 : (Jvm.Cond.lays "NumberText$Reader" "NumberText$Reader" "exponent" "I") ∈ gtbl := gx_c1 (List.mem_of_getElem? (i := 150) (by decide +kernel)) rfl
theorem wd_151 : (Jvm.Cond.soleField "NumberText$Reader" "exponent") ∈ gtbl := gx_c1 (List.mem_of_getElem? (i := 151) (by decide +kernel)) rfl
theorem wd_152 : (Jvm.Cond.lays "NumberText$Reader" "NumberText$Reader" "chunk" "I") ∈ gtbl := gx_c1 (List.mem_of_getElem? (i := 152) (by decide +kernel)) rfl
theorem wd_153 : (Jvm.Cond.soleField "NumberText$Reader" "chunk") ∈ gtbl := gx_c1 (List.mem_of_getElem? (i := 153) (by decide +kernel)) rfl
theorem wd_154 : (Jvm.Cond.lays "NumberText$Reader" "NumberText$Reader" "chunkUnit" "I") ∈ gtbl := gx_c1 (List.mem_of_getElem? (i := 154) (by decide +kernel)) rfl
theorem wd_155 : (Jvm.Cond.soleField "NumberText$Reader" "chunkUnit") ∈ gtbl := gx_c1 (List.mem_of_getElem? (i := 155) (by decide +kernel)) rfl
theorem wd_156 : (Jvm.Cond.superclass "NumberText$Reader" "java/lang/Object") ∈ gtbl := gx_c1 (List.mem_of_getElem? (i := 156) (by decide +kernel)) rfl
theorem wd_157 : (Jvm.Cond.classLink "NumberText" (39 : Nat) "NumberText$Binary") ∈ gtbl := gx_c1 (List.mem_of_getElem? (i := 157) (by decide +kernel)) rfl
theorem wd_158 : (Jvm.Cond.instantiable "NumberText$Binary" (6 : Nat)) ∈ gtbl := gx_c1 (List.mem_of_getElem? (i := 158) (by decide +kernel)) rfl
theorem wd_160 : (Jvm.Cond.instanceMethod ({ cls := "NumberText$Binary", name := "<init>", desc := "()V" } : Jvm.MethodName)) ∈ gtbl := gx_c1 (List.mem_of_getElem? (i := 160) (by decide +kernel)) rfl
theorem wd_161 : (Jvm.Cond.code ({ cls := "NumberText$Binary", name := "<init>", desc := "()V" } : Jvm.MethodName) prog_4_method_1_code (1 : Nat) (Option.none : Option FieldType)) ∈ gtbl := gx_c1 (List.mem_of_getElem? (i := 161) rfl) rfl
theorem wd_162 : (Jvm.Cond.methodLink "NumberText$Binary" (1 : Nat) ({ cls := "java/lang/Object", name := "<init>", desc := "()V" } : Jvm.MethodName)) ∈ gtbl := gx_c1 (List.mem_of_getElem? (i := 162) (by decide +kernel)) rfl
theorem wd_163 : (Jvm.Cond.fieldLink "NumberText$Binary" (7 : Nat) "NumberText$Size" "DOUBLE" "LNumberText$Size;") ∈ gtbl := gx_c1 (List.mem_of_getElem? (i := 163) (by decide +kernel)) rfl
theorem wd_165 : (Jvm.Cond.fieldLink "NumberText$Binary" (13 : Nat) "NumberText$Binary" "size" "LNumberText$Size;") ∈ gtbl := gx_c1 (List.mem_of_getElem? (i := 165) (by decide +kernel)) rfl
theorem wd_166 : (Jvm.Cond.fieldLink "NumberText$Binary" (18 : Nat) "NumberText$Binary" "negative" "Z") ∈ gtbl := gx_c1 (List.mem_of_getElem? (i := 166) (by decide +kernel)) rfl
theorem wd_167 : (Jvm.Cond.fieldLink "NumberText$Shortest" (53 : Nat) "NumberText$Binary" "negative" "Z") ∈ gtbl := gx_c1 (List.mem_of_getElem? (i := 167) (by decide +kernel)) rfl
theorem wd_168 : (Jvm.Cond.fieldLink "NumberText$Printer" (225 : Nat) "NumberText$Binary" "negative" "Z") ∈ gtbl := gx_c1 (List.mem_of_getElem? (i := 168) (by decide +kernel)) rfl
theorem wd_169 : (Jvm.Cond.fieldLink "NumberText$Binary" (22 : Nat) "NumberText$Binary" "notANumber" "Z") ∈ gtbl := gx_c1 (List.mem_of_getElem? (i := 169) (by decide +kernel)) rfl
theorem wd_170 : (Jvm.Cond.fieldLink "NumberText$Shortest" (39 : Nat) "NumberText$Binary" "notANumber" "Z") ∈ gtbl := gx_c1 (List.mem_of_getElem? (i := 170) (by decide +kernel)) rfl
theorem wd_171 : (Jvm.Cond.fieldLink "NumberText$Printer" (220 : Nat) "NumberText$Binary" "notANumber" "Z") ∈ gtbl := gx_c1 (List.mem_of_getElem? (i := 171) (by decide +kernel)) rfl
theorem wd_172 : (Jvm.Cond.fieldLink "NumberText$Binary" (25 : Nat) "NumberText$Binary" "infinite" "Z") ∈ gtbl := gx_c1 (List.mem_of_getElem? (i := 172) (by decide +kernel)) rfl
theorem wd_173 : (Jvm.Cond.fieldLink "NumberText$Shortest" (60 : Nat) "NumberText$Binary" "infinite" "Z") ∈ gtbl := gx_c1 (List.mem_of_getElem? (i := 173) (by decide +kernel)) rfl
theorem wd_174 : (Jvm.Cond.fieldLink "NumberText$Printer" (228 : Nat) "NumberText$Binary" "infinite" "Z") ∈ gtbl := gx_c1 (List.mem_of_getElem? (i := 174) (by decide +kernel)) rfl
theorem wd_175 : (Jvm.Cond.fieldLink "NumberText$Binary" (28 : Nat) "NumberText$Binary" "c" "J") ∈ gtbl := gx_c1 (List.mem_of_getElem? (i := 175) (by decide +kernel)) rfl
theorem wd_176 : (Jvm.Cond.fieldLink "NumberText$Shortest" (65 : Nat) "NumberText$Binary" "c" "J") ∈ gtbl := gx_c1 (List.mem_of_getElem? (i := 176) (by decide +kernel)) rfl
theorem wd_177 : (Jvm.Cond.fieldLink "NumberText$Printer" (239 : Nat) "NumberText$Binary" "c" "J") ∈ gtbl := gx_c1 (List.mem_of_getElem? (i := 177) (by decide +kernel)) rfl
theorem wd_178 : (Jvm.Cond.fieldLink "NumberText$Binary" (32 : Nat) "NumberText$Binary" "q" "I") ∈ gtbl := gx_c1 (List.mem_of_getElem? (i := 178) (by decide +kernel)) rfl
theorem wd_179 : (Jvm.Cond.fieldLink "NumberText$Shortest" (146 : Nat) "NumberText$Binary" "q" "I") ∈ gtbl := gx_c1 (List.mem_of_getElem? (i := 179) (by decide +kernel)) rfl
theorem wd_180 : (Jvm.Cond.fieldLink "NumberText$Printer" (243 : Nat) "NumberText$Binary" "q" "I") ∈ gtbl := gx_c1 (List.mem_of_getElem? (i := 180) (by decide +kernel)) rfl
theorem wd_181 : (Jvm.Cond.lays "NumberText$Binary" "NumberText$Binary" "size" "LNumberText$Size;") ∈ gtbl := gx_c1 (List.mem_of_getElem? (i := 181) (by decide +kernel)) rfl
theorem wd_182 : (Jvm.Cond.soleField "NumberText$Binary" "size") ∈ gtbl := gx_c1 (List.mem_of_getElem? (i := 182) (by decide +kernel)) rfl
theorem wd_183 : (Jvm.Cond.lays "NumberText$Binary" "NumberText$Binary" "negative" "Z") ∈ gtbl := gx_c1 (List.mem_of_getElem? (i := 183) (by decide +kernel)) rfl
theorem wd_184 : (Jvm.Cond.soleField "NumberText$Binary" "negative") ∈ gtbl := gx_c1 (List.mem_of_getElem? (i := 184) (by decide +kernel)) rfl
theorem wd_185 : (Jvm.Cond.lays "NumberText$Binary" "NumberText$Binary" "notANumber" "Z") ∈ gtbl := gx_c1 (List.mem_of_getElem? (i := 185) (by decide +kernel)) rfl
theorem wd_186 : (Jvm.Cond.soleField "NumberText$Binary" "notANumber") ∈ gtbl := gx_c1 (List.mem_of_getElem? (i := 186) (by decide +kernel)) rfl
theorem wd_187 : (Jvm.Cond.lays "NumberText$Binary" "NumberText$Binary" "infinite" "Z") ∈ gtbl := gx_c1 (List.mem_of_getElem? (i := 187) (by decide +kernel)) rfl
theorem wd_188 : (Jvm.Cond.soleField "NumberText$Binary" "infinite") ∈ gtbl := gx_c1 (List.mem_of_getElem? (i := 188) (by decide +kernel)) rfl
theorem wd_189 : (Jvm.Cond.lays "NumberText$Binary" "NumberText$Binary" "c" "J") ∈ gtbl := gx_c1 (List.mem_of_getElem? (i := 189) (by decide +kernel)) rfl
theorem wd_190 : (Jvm.Cond.soleField "NumberText$Binary" "c") ∈ gtbl := gx_c1 (List.mem_of_getElem? (i := 190) (by decide +kernel)) rfl
theorem wd_191 : (Jvm.Cond.lays "NumberText$Binary" "NumberText$Binary" "q" "I") ∈ gtbl := gx_c1 (List.mem_of_getElem? (i := 191) (by decide +kernel)) rfl
theorem wd_192 : (Jvm.Cond.soleField "NumberText$Binary" "q") ∈ gtbl := gx_c1 (List.mem_of_getElem? (i := 192) (by decide +kernel)) rfl
theorem wd_193 : (Jvm.Cond.superclass "NumberText$Binary" "java/lang/Object") ∈ gtbl := gx_c1 (List.mem_of_getElem? (i := 193) (by decide +kernel)) rfl
theorem wd_194 : (Jvm.Cond.classLink "NumberText" (46 : Nat) "NumberText$Shortest") ∈ gtbl := gx_c1 (List.mem_of_getElem? (i := 194) (by decide +kernel)) rfl
theorem wd_195 : (Jvm.Cond.instantiable "NumberText$Shortest" (7 : Nat)) ∈ gtbl := gx_c1 (List.mem_of_getElem? (i := 195) (by decide +kernel)) rfl
theorem wd_197 : (Jvm.Cond.instanceMethod ({ cls := "NumberText$Shortest", name := "<init>", desc := "()V" } : Jvm.MethodName)) ∈ gtbl := gx_c1 (List.mem_of_getElem? (i := 197) (by decide +kernel)) rfl
theorem wd_198 : (Jvm.Cond.code ({ cls := "NumberText$Shortest", name := "<init>", desc := "()V" } : Jvm.MethodName) prog_10_method_1_code (1 : Nat) (Option.none : Option FieldType)) ∈ gtbl := gx_c1 (List.mem_of_getElem? (i := 198) rfl) rfl
theorem wd_199 : (Jvm.Cond.methodLink "NumberText$Shortest" (1 : Nat) ({ cls := "java/lang/Object", name := "<init>", desc := "()V" } : Jvm.MethodName)) ∈ gtbl := gx_c1 (List.mem_of_getElem? (i := 199) (by decide +kernel)) rfl
theorem wd_200 : (Jvm.Cond.classLink "NumberText$Shortest" (7 : Nat) "NumberText$Decimal") ∈ gtbl := gx_c1 (List.mem_of_getElem? (i := 200) (by decide +kernel)) rfl
theorem wd_201 : (Jvm.Cond.instantiable "NumberText$Decimal" (5 : Nat)) ∈ gtbl := gx_c1 (List.mem_of_getElem? (i := 201) (by decide +kernel)) rfl
theorem wd_203 : (Jvm.Cond.instanceMethod ({ cls := "NumberText$Decimal", name := "<init>", desc := "()V" } : Jvm.MethodName)) ∈ gtbl := gx_c1 (List.mem_of_getElem? (i := 203) (by decide +kernel)) rfl
theorem wd_204 : (Jvm.Cond.code ({ cls := "NumberText$Decimal", name := "<init>", desc := "()V" } : Jvm.MethodName) prog_6_method_1_code (1 : Nat) (Option.none : Option FieldType)) ∈ gtbl := gx_c1 (List.mem_of_getElem? (i := 204) rfl) rfl
theorem wd_205 : (Jvm.Cond.methodLink "NumberText$Decimal" (1 : Nat) ({ cls := "java/lang/Object", name := "<init>", desc := "()V" } : Jvm.MethodName)) ∈ gtbl := gx_c1 (List.mem_of_getElem? (i := 205) (by decide +kernel)) rfl
theorem wd_206 : (Jvm.Cond.classLink "NumberText$Decimal" (7 : Nat) "NumberText$Big") ∈ gtbl := gx_c1 (List.mem_of_getElem? (i := 206) (by decide +kernel)) rfl
theorem wd_208 : (Jvm.Cond.fieldLink "NumberText$Decimal" (10 : Nat) "NumberText$Decimal" "number" "LNumberText$Big;") ∈ gtbl := gx_c1 (List.mem_of_getElem? (i := 208) (by decide +kernel)) rfl
theorem wd_209 : (Jvm.Cond.fieldLink "NumberText$Decimal" (16 : Nat) "NumberText$Decimal" "chunks" "[I") ∈ gtbl := gx_c1 (List.mem_of_getElem? (i := 209) (by decide +kernel)) rfl
theorem wd_210 : (Jvm.Cond.fieldLink "NumberText$Decimal" (20 : Nat) "NumberText$Decimal" "digits" "[B") ∈ gtbl := gx_c1 (List.mem_of_getElem? (i := 210) (by decide +kernel)) rfl
theorem wd_211 : (Jvm.Cond.fieldLink "NumberText$Decimal" (24 : Nat) "NumberText$Decimal" "size" "I") ∈ gtbl := gx_c1 (List.mem_of_getElem? (i := 211) (by decide +kernel)) rfl
theorem wd_212 : (Jvm.Cond.fieldLink "NumberText$Shortest" (88 : Nat) "NumberText$Decimal" "size" "I") ∈ gtbl := gx_c1 (List.mem_of_getElem? (i := 212) (by decide +kernel)) rfl
theorem wd_213 : (Jvm.Cond.fieldLink "NumberText$Decimal" (28 : Nat) "NumberText$Decimal" "point" "I") ∈ gtbl := gx_c1 (List.mem_of_getElem? (i := 213) (by decide +kernel)) rfl
theorem wd_214 : (Jvm.Cond.fieldLink "NumberText$Shortest" (83 : Nat) "NumberText$Decimal" "point" "I") ∈ gtbl := gx_c1 (List.mem_of_getElem? (i := 214) (by decide +kernel)) rfl
theorem wd_215 : (Jvm.Cond.fieldLink "NumberText$Printer" (253 : Nat) "NumberText$Decimal" "point" "I") ∈ gtbl := gx_c1 (List.mem_of_getElem? (i := 215) (by decide +kernel)) rfl
theorem wd_216 : (Jvm.Cond.laysFinal "NumberText$Decimal" "NumberText$Decimal" "number" "LNumberText$Big;") ∈ gtbl := gx_c1 (List.mem_of_getElem? (i := 216) (by decide +kernel)) rfl
theorem wd_217 : (Jvm.Cond.soleField "NumberText$Decimal" "number") ∈ gtbl := gx_c1 (List.mem_of_getElem? (i := 217) (by decide +kernel)) rfl
theorem wd_218 : (Jvm.Cond.laysFinal "NumberText$Decimal" "NumberText$Decimal" "chunks" "[I") ∈ gtbl := gx_c1 (List.mem_of_getElem? (i := 218) (by decide +kernel)) rfl
theorem wd_219 : (Jvm.Cond.soleField "NumberText$Decimal" "chunks") ∈ gtbl := gx_c1 (List.mem_of_getElem? (i := 219) (by decide +kernel)) rfl
theorem wd_220 : (Jvm.Cond.laysFinal "NumberText$Decimal" "NumberText$Decimal" "digits" "[B") ∈ gtbl := gx_c1 (List.mem_of_getElem? (i := 220) (by decide +kernel)) rfl
theorem wd_221 : (Jvm.Cond.soleField "NumberText$Decimal" "digits") ∈ gtbl := gx_c1 (List.mem_of_getElem? (i := 221) (by decide +kernel)) rfl
theorem wd_222 : (Jvm.Cond.lays "NumberText$Decimal" "NumberText$Decimal" "size" "I") ∈ gtbl := gx_c1 (List.mem_of_getElem? (i := 222) (by decide +kernel)) rfl
theorem wd_223 : (Jvm.Cond.soleField "NumberText$Decimal" "size") ∈ gtbl := gx_c1 (List.mem_of_getElem? (i := 223) (by decide +kernel)) rfl
theorem wd_224 : (Jvm.Cond.lays "NumberText$Decimal" "NumberText$Decimal" "point" "I") ∈ gtbl := gx_c1 (List.mem_of_getElem? (i := 224) (by decide +kernel)) rfl
theorem wd_225 : (Jvm.Cond.soleField "NumberText$Decimal" "point") ∈ gtbl := gx_c1 (List.mem_of_getElem? (i := 225) (by decide +kernel)) rfl
theorem wd_226 : (Jvm.Cond.superclass "NumberText$Decimal" "java/lang/Object") ∈ gtbl := gx_c1 (List.mem_of_getElem? (i := 226) (by decide +kernel)) rfl
theorem wd_227 : (Jvm.Cond.classLink "NumberText$Shortest" (16 : Nat) "NumberText$Big") ∈ gtbl := gx_c1 (List.mem_of_getElem? (i := 227) (by decide +kernel)) rfl
theorem wd_229 : (Jvm.Cond.fieldLink "NumberText$Shortest" (10 : Nat) "NumberText$Shortest" "decimal" "LNumberText$Decimal;") ∈ gtbl := gx_c1 (List.mem_of_getElem? (i := 229) (by decide +kernel)) rfl
theorem wd_230 : (Jvm.Cond.fieldLink "NumberText$Shortest" (19 : Nat) "NumberText$Shortest" "value" "LNumberText$Big;") ∈ gtbl := gx_c1 (List.mem_of_getElem? (i := 230) (by decide +kernel)) rfl
theorem wd_231 : (Jvm.Cond.fieldLink "NumberText$Shortest" (23 : Nat) "NumberText$Shortest" "unit" "LNumberText$Big;") ∈ gtbl := gx_c1 (List.mem_of_getElem? (i := 231) (by decide +kernel)) rfl
theorem wd_232 : (Jvm.Cond.fieldLink "NumberText$Shortest" (26 : Nat) "NumberText$Shortest" "up" "LNumberText$Big;") ∈ gtbl := gx_c1 (List.mem_of_getElem? (i := 232) (by decide +kernel)) rfl
theorem wd_233 : (Jvm.Cond.fieldLink "NumberText$Shortest" (29 : Nat) "NumberText$Shortest" "down" "LNumberText$Big;") ∈ gtbl := gx_c1 (List.mem_of_getElem? (i := 233) (by decide +kernel)) rfl
theorem wd_234 : (Jvm.Cond.fieldLink "NumberText$Shortest" (32 : Nat) "NumberText$Shortest" "rest" "LNumberText$Big;") ∈ gtbl := gx_c1 (List.mem_of_getElem? (i := 234) (by decide +kernel)) rfl
theorem wd_235 : (Jvm.Cond.fieldLink "NumberText$Shortest" (35 : Nat) "NumberText$Shortest" "point" "I") ∈ gtbl := gx_c1 (List.mem_of_getElem? (i := 235) (by decide +kernel)) rfl
theorem wd_236 : (Jvm.Cond.laysFinal "NumberText$Shortest" "NumberText$Shortest" "decimal" "LNumberText$Decimal;") ∈ gtbl := gx_c1 (List.mem_of_getElem? (i := 236) (by decide +kernel)) rfl
theorem wd_237 : (Jvm.Cond.soleField "NumberText$Shortest" "decimal") ∈ gtbl := gx_c1 (List.mem_of_getElem? (i := 237) (by decide +kernel)) rfl
theorem wd_238 : (Jvm.Cond.laysFinal "NumberText$Shortest" "NumberText$Shortest" "value" "LNumberText$Big;") ∈ gtbl := gx_c1 (List.mem_of_getElem? (i := 238) (by decide +kernel)) rfl
theorem wd_239 : (Jvm.Cond.soleField "NumberText$Shortest" "value") ∈ gtbl := gx_c1 (List.mem_of_getElem? (i := 239) (by decide +kernel)) rfl
theorem wd_240 : (Jvm.Cond.laysFinal "NumberText$Shortest" "NumberText$Shortest" "unit" "LNumberText$Big;") ∈ gtbl := gx_c2 (List.mem_of_getElem? (i := 0) (by decide +kernel)) rfl
theorem wd_241 : (Jvm.Cond.soleField "NumberText$Shortest" "unit") ∈ gtbl := gx_c2 (List.mem_of_getElem? (i := 1) (by decide +kernel)) rfl
theorem wd_242 : (Jvm.Cond.laysFinal "NumberText$Shortest" "NumberText$Shortest" "up" "LNumberText$Big;") ∈ gtbl := gx_c2 (List.mem_of_getElem? (i := 2) (by decide +kernel)) rfl
theorem wd_243 : (Jvm.Cond.soleField "NumberText$Shortest" "up") ∈ gtbl := gx_c2 (List.mem_of_getElem? (i := 3) (by decide +kernel)) rfl
theorem wd_244 : (Jvm.Cond.laysFinal "NumberText$Shortest" "NumberText$Shortest" "down" "LNumberText$Big;") ∈ gtbl := gx_c2 (List.mem_of_getElem? (i := 4) (by decide +kernel)) rfl
theorem wd_245 : (Jvm.Cond.soleField "NumberText$Shortest" "down") ∈ gtbl := gx_c2 (List.mem_of_getElem? (i := 5) (by decide +kernel)) rfl
theorem wd_246 : (Jvm.Cond.laysFinal "NumberText$Shortest" "NumberText$Shortest" "rest" "LNumberText$Big;") ∈ gtbl := gx_c2 (List.mem_of_getElem? (i := 6) (by decide +kernel)) rfl
theorem wd_247 : (Jvm.Cond.soleField "NumberText$Shortest" "rest") ∈ gtbl := gx_c2 (List.mem_of_getElem? (i := 7) (by decide +kernel)) rfl
theorem wd_248 : (Jvm.Cond.lays "NumberText$Shortest" "NumberText$Shortest" "point" "I") ∈ gtbl := gx_c2 (List.mem_of_getElem? (i := 8) (by decide +kernel)) rfl
theorem wd_249 : (Jvm.Cond.soleField "NumberText$Shortest" "point") ∈ gtbl := gx_c2 (List.mem_of_getElem? (i := 9) (by decide +kernel)) rfl
theorem wd_250 : (Jvm.Cond.superclass "NumberText$Shortest" "java/lang/Object") ∈ gtbl := gx_c2 (List.mem_of_getElem? (i := 10) (by decide +kernel)) rfl
theorem wd_251 : (Jvm.Cond.classLink "NumberText" (53 : Nat) "NumberText$Format") ∈ gtbl := gx_c2 (List.mem_of_getElem? (i := 11) (by decide +kernel)) rfl
theorem wd_253 : (Jvm.Cond.instantiable "NumberText$Format" (11 : Nat)) ∈ gtbl := gx_c2 (List.mem_of_getElem? (i := 13) (by decide +kernel)) rfl
theorem wd_255 : (Jvm.Cond.instanceMethod ({ cls := "NumberText$Format", name := "<init>", desc := "()V" } : Jvm.MethodName)) ∈ gtbl := gx_c2 (List.mem_of_getElem? (i := 15) (by decide +kernel)) rfl
theorem wd_256 : (Jvm.Cond.code ({ cls := "NumberText$Format", name := "<init>", desc := "()V" } : Jvm.MethodName) prog_7_method_1_code (1 : Nat) (Option.none : Option FieldType)) ∈ gtbl := gx_c2 (List.mem_of_getElem? (i := 16) rfl) rfl
theorem wd_257 : (Jvm.Cond.methodLink "NumberText$Format" (5 : Nat) ({ cls := "java/lang/Object", name := "<init>", desc := "()V" } : Jvm.MethodName)) ∈ gtbl := gx_c2 (List.mem_of_getElem? (i := 17) (by decide +kernel)) rfl
theorem wd_258 : (Jvm.Cond.classLink "NumberText$Format" (11 : Nat) "NumberText$Bytes") ∈ gtbl := gx_c2 (List.mem_of_getElem? (i := 18) (by decide +kernel)) rfl
theorem wd_259 : (Jvm.Cond.methodLink "NumberText$Format" (13 : Nat) ({ cls := "NumberText$Bytes", name := "<init>", desc := "(I)V" } : Jvm.MethodName)) ∈ gtbl := gx_c2 (List.mem_of_getElem? (i := 19) (by decide +kernel)) rfl
theorem wd_260 : (Jvm.Cond.fieldLink "NumberText$Format" (16 : Nat) "NumberText$Format" "text" "LNumberText$Bytes;") ∈ gtbl := gx_c2 (List.mem_of_getElem? (i := 20) (by decide +kernel)) rfl
theorem wd_261 : (Jvm.Cond.fieldLink "NumberText" (173 : Nat) "NumberText$Format" "text" "LNumberText$Bytes;") ∈ gtbl := gx_c2 (List.mem_of_getElem? (i := 21) (by decide +kernel)) rfl
theorem wd_262 : (Jvm.Cond.fieldLink "NumberText$Format" (20 : Nat) "NumberText$Format" "place" "[I") ∈ gtbl := gx_c2 (List.mem_of_getElem? (i := 22) (by decide +kernel)) rfl
theorem wd_263 : (Jvm.Cond.fieldLink "NumberText" (210 : Nat) "NumberText$Format" "place" "[I") ∈ gtbl := gx_c2 (List.mem_of_getElem? (i := 23) (by decide +kernel)) rfl
theorem wd_264 : (Jvm.Cond.fieldLink "NumberText$Format" (24 : Nat) "NumberText$Format" "after" "[I") ∈ gtbl := gx_c2 (List.mem_of_getElem? (i := 24) (by decide +kernel)) rfl
theorem wd_265 : (Jvm.Cond.fieldLink "NumberText" (224 : Nat) "NumberText$Format" "after" "[I") ∈ gtbl := gx_c2 (List.mem_of_getElem? (i := 25) (by decide +kernel)) rfl
theorem wd_266 : (Jvm.Cond.fieldLink "NumberText$Format" (27 : Nat) "NumberText$Format" "flags" "[I") ∈ gtbl := gx_c2 (List.mem_of_getElem? (i := 26) (by decide +kernel)) rfl
theorem wd_267 : (Jvm.Cond.fieldLink "NumberText$Printer" (88 : Nat) "NumberText$Format" "flags" "[I") ∈ gtbl := gx_c2 (List.mem_of_getElem? (i := 27) (by decide +kernel)) rfl
theorem wd_268 : (Jvm.Cond.fieldLink "NumberText$Format" (30 : Nat) "NumberText$Format" "width" "[I") ∈ gtbl := gx_c2 (List.mem_of_getElem? (i := 28) (by decide +kernel)) rfl
theorem wd_269 : (Jvm.Cond.fieldLink "NumberText$Printer" (90 : Nat) "NumberText$Format" "width" "[I") ∈ gtbl := gx_c2 (List.mem_of_getElem? (i := 29) (by decide +kernel)) rfl
theorem wd_270 : (Jvm.Cond.fieldLink "NumberText$Format" (33 : Nat) "NumberText$Format" "precision" "[I") ∈ gtbl := gx_c2 (List.mem_of_getElem? (i := 30) (by decide +kernel)) rfl
theorem wd_271 : (Jvm.Cond.fieldLink "NumberText$Printer" (92 : Nat) "NumberText$Format" "precision" "[I") ∈ gtbl := gx_c2 (List.mem_of_getElem? (i := 31) (by decide +kernel)) rfl
theorem wd_272 : (Jvm.Cond.fieldLink "NumberText$Format" (36 : Nat) "NumberText$Format" "conversion" "[I") ∈ gtbl := gx_c2 (List.mem_of_getElem? (i := 32) (by decide +kernel)) rfl
theorem wd_273 : (Jvm.Cond.fieldLink "NumberText$Printer" (82 : Nat) "NumberText$Format" "conversion" "[I") ∈ gtbl := gx_c2 (List.mem_of_getElem? (i := 33) (by decide +kernel)) rfl
theorem wd_274 : (Jvm.Cond.fieldLink "NumberText$Format" (39 : Nat) "NumberText$Format" "index" "[I") ∈ gtbl := gx_c2 (List.mem_of_getElem? (i := 34) (by decide +kernel)) rfl
theorem wd_275 : (Jvm.Cond.fieldLink "NumberText$Printer" (94 : Nat) "NumberText$Format" "index" "[I") ∈ gtbl := gx_c2 (List.mem_of_getElem? (i := 35) (by decide +kernel)) rfl
theorem wd_276 : (Jvm.Cond.fieldLink "NumberText$Format" (42 : Nat) "NumberText$Format" "directives" "I") ∈ gtbl := gx_c2 (List.mem_of_getElem? (i := 36) (by decide +kernel)) rfl
theorem wd_277 : (Jvm.Cond.fieldLink "NumberText" (207 : Nat) "NumberText$Format" "directives" "I") ∈ gtbl := gx_c2 (List.mem_of_getElem? (i := 37) (by decide +kernel)) rfl
theorem wd_278 : (Jvm.Cond.fieldLink "NumberText$Format" (46 : Nat) "NumberText$Format" "present" "Z") ∈ gtbl := gx_c2 (List.mem_of_getElem? (i := 38) (by decide +kernel)) rfl
theorem wd_279 : (Jvm.Cond.fieldLink "NumberText" (201 : Nat) "NumberText$Format" "present" "Z") ∈ gtbl := gx_c2 (List.mem_of_getElem? (i := 39) (by decide +kernel)) rfl
theorem wd_280 : (Jvm.Cond.fieldLink "NumberText$Format" (50 : Nat) "NumberText$Format" "at" "I") ∈ gtbl := gx_c2 (List.mem_of_getElem? (i := 40) (by decide +kernel)) rfl
theorem wd_281 : (Jvm.Cond.laysFinal "NumberText$Format" "NumberText$Format" "text" "LNumberText$Bytes;") ∈ gtbl := gx_c2 (List.mem_of_getElem? (i := 41) (by decide +kernel)) rfl
theorem wd_282 : (Jvm.Cond.soleField "NumberText$Format" "text") ∈ gtbl := gx_c2 (List.mem_of_getElem? (i := 42) (by decide +kernel)) rfl
theorem wd_283 : (Jvm.Cond.laysFinal "NumberText$Format" "NumberText$Format" "place" "[I") ∈ gtbl := gx_c2 (List.mem_of_getElem? (i := 43) (by decide +kernel)) rfl
theorem wd_284 : (Jvm.Cond.soleField "NumberText$Format" "place") ∈ gtbl := gx_c2 (List.mem_of_getElem? (i := 44) (by decide +kernel)) rfl
theorem wd_285 : (Jvm.Cond.laysFinal "NumberText$Format" "NumberText$Format" "after" "[I") ∈ gtbl := gx_c2 (List.mem_of_getElem? (i := 45) (by decide +kernel)) rfl
theorem wd_286 : (Jvm.Cond.soleField "NumberText$Format" "after") ∈ gtbl := gx_c2 (List.mem_of_getElem? (i := 46) (by decide +kernel)) rfl
theorem wd_287 : (Jvm.Cond.laysFinal "NumberText$Format" "NumberText$Format" "flags" "[I") ∈ gtbl := gx_c2 (List.mem_of_getElem? (i := 47) (by decide +kernel)) rfl
theorem wd_288 : (Jvm.Cond.soleField "NumberText$Format" "flags") ∈ gtbl := gx_c2 (List.mem_of_getElem? (i := 48) (by decide +kernel)) rfl
theorem wd_289 : (Jvm.Cond.laysFinal "NumberText$Format" "NumberText$Format" "width" "[I") ∈ gtbl := gx_c2 (List.mem_of_getElem? (i := 49) (by decide +kernel)) rfl
theorem wd_290 : (Jvm.Cond.soleField "NumberText$Format" "width") ∈ gtbl := gx_c2 (List.mem_of_getElem? (i := 50) (by decide +kernel)) rfl
theorem wd_291 : (Jvm.Cond.laysFinal "NumberText$Format" "NumberText$Format" "precision" "[I") ∈ gtbl := gx_c2 (List.mem_of_getElem? (i := 51) (by decide +kernel)) rfl
theorem wd_292 : (Jvm.Cond.soleField "NumberText$Format" "precision") ∈ gtbl := gx_c2 (List.mem_of_getElem? (i := 52) (by decide +kernel)) rfl
theorem wd_293 : (Jvm.Cond.laysFinal "NumberText$Format" "NumberText$Format" "conversion" "[I") ∈ gtbl := gx_c2 (List.mem_of_getElem? (i := 53) (by decide +kernel)) rfl
theorem wd_294 : (Jvm.Cond.soleField "NumberText$Format" "conversion") ∈ gtbl := gx_c2 (List.mem_of_getElem? (i := 54) (by decide +kernel)) rfl
theorem wd_295 : (Jvm.Cond.laysFinal "NumberText$Format" "NumberText$Format" "index" "[I") ∈ gtbl := gx_c2 (List.mem_of_getElem? (i := 55) (by decide +kernel)) rfl
theorem wd_296 : (Jvm.Cond.soleField "NumberText$Format" "index") ∈ gtbl := gx_c2 (List.mem_of_getElem? (i := 56) (by decide +kernel)) rfl
theorem wd_297 : (Jvm.Cond.lays "NumberText$Format" "NumberText$Format" "directives" "I") ∈ gtbl := gx_c2 (List.mem_of_getElem? (i := 57) (by decide +kernel)) rfl
theorem wd_298 : (Jvm.Cond.soleField "NumberText$Format" "directives") ∈ gtbl := gx_c2 (List.mem_of_getElem? (i := 58) (by decide +kernel)) rfl
theorem wd_299 : (Jvm.Cond.lays "NumberText$Format" "NumberText$Format" "present" "Z") ∈ gtbl := gx_c2 (List.mem_of_getElem? (i := 59) (by decide +kernel)) rfl
theorem wd_300 : (Jvm.Cond.soleField "NumberText$Format" "present") ∈ gtbl := gx_c2 (List.mem_of_getElem? (i := 60) (by decide +kernel)) rfl
theorem wd_301 : (Jvm.Cond.lays "NumberText$Format" "NumberText$Format" "at" "I") ∈ gtbl := gx_c2 (List.mem_of_getElem? (i := 61) (by decide +kernel)) rfl
theorem wd_302 : (Jvm.Cond.soleField "NumberText$Format" "at") ∈ gtbl := gx_c2 (List.mem_of_getElem? (i := 62) (by decide +kernel)) rfl
theorem wd_303 : (Jvm.Cond.superclass "NumberText$Format" "java/lang/Object") ∈ gtbl := gx_c2 (List.mem_of_getElem? (i := 63) (by decide +kernel)) rfl
theorem wd_304 : (Jvm.Cond.classLink "NumberText" (71 : Nat) "NumberText$Printer") ∈ gtbl := gx_c2 (List.mem_of_getElem? (i := 64) (by decide +kernel)) rfl
theorem wd_305 : (Jvm.Cond.instantiable "NumberText$Printer" (14 : Nat)) ∈ gtbl := gx_c2 (List.mem_of_getElem? (i := 65) (by decide +kernel)) rfl
theorem wd_306 : (Jvm.Cond.methodLink "NumberText" (73 : Nat) ({ cls := "NumberText$Printer", name := "<init>", desc := "(LNumberText$Bytes;LNumberText$Arguments;LNumberText$Shortest;)V" } : Jvm.MethodName)) ∈ gtbl := gx_c2 (List.mem_of_getElem? (i := 66) (by decide +kernel)) rfl
theorem wd_307 : (Jvm.Cond.instanceMethod ({ cls := "NumberText$Printer", name := "<init>", desc := "(LNumberText$Bytes;LNumberText$Arguments;LNumberText$Shortest;)V" } : Jvm.MethodName)) ∈ gtbl := gx_c2 (List.mem_of_getElem? (i := 67) (by decide +kernel)) rfl
theorem wd_308 : (Jvm.Cond.code ({ cls := "NumberText$Printer", name := "<init>", desc := "(LNumberText$Bytes;LNumberText$Arguments;LNumberText$Shortest;)V" } : Jvm.MethodName) prog_8_method_1_code (4 : Nat) (Option.none : Option FieldType)) ∈ gtbl := gx_c2 (List.mem_of_getElem? (i := 68) rfl) rfl
theorem wd_309 : (Jvm.Cond.methodLink "NumberText$Printer" (3 : Nat) ({ cls := "java/lang/Object", name := "<init>", desc := "()V" } : Jvm.MethodName)) ∈ gtbl := gx_c2 (List.mem_of_getElem? (i := 69) (by decide +kernel)) rfl
theorem wd_310 : (Jvm.Cond.classLink "NumberText$Printer" (9 : Nat) "NumberText$Decimal") ∈ gtbl := gx_c2 (List.mem_of_getElem? (i := 70) (by decide +kernel)) rfl
theorem wd_312 : (Jvm.Cond.classLink "NumberText$Printer" (18 : Nat) "NumberText$Binary") ∈ gtbl := gx_c2 (List.mem_of_getElem? (i := 72) (by decide +kernel)) rfl
theorem wd_314 : (Jvm.Cond.classLink "NumberText$Printer" (25 : Nat) "NumberText$Bytes") ∈ gtbl := gx_c2 (List.mem_of_getElem? (i := 74) (by decide +kernel)) rfl
theorem wd_315 : (Jvm.Cond.methodLink "NumberText$Printer" (27 : Nat) ({ cls := "NumberText$Bytes", name := "<init>", desc := "(I)V" } : Jvm.MethodName)) ∈ gtbl := gx_c2 (List.mem_of_getElem? (i := 75) (by decide +kernel)) rfl
theorem wd_316 : (Jvm.Cond.fieldLink "NumberText$Printer" (60 : Nat) "NumberText$Printer" "result" "LNumberText$Bytes;") ∈ gtbl := gx_c2 (List.mem_of_getElem? (i := 76) (by decide +kernel)) rfl
theorem wd_317 : (Jvm.Cond.fieldLink "NumberText$Printer" (63 : Nat) "NumberText$Printer" "arguments" "LNumberText$Arguments;") ∈ gtbl := gx_c2 (List.mem_of_getElem? (i := 77) (by decide +kernel)) rfl
theorem wd_318 : (Jvm.Cond.fieldLink "NumberText$Printer" (67 : Nat) "NumberText$Printer" "shortest" "LNumberText$Shortest;") ∈ gtbl := gx_c2 (List.mem_of_getElem? (i := 78) (by decide +kernel)) rfl
theorem wd_319 : (Jvm.Cond.fieldLink "NumberText$Printer" (12 : Nat) "NumberText$Printer" "decimal" "LNumberText$Decimal;") ∈ gtbl := gx_c2 (List.mem_of_getElem? (i := 79) (by decide +kernel)) rfl
theorem wd_320 : (Jvm.Cond.fieldLink "NumberText$Printer" (21 : Nat) "NumberText$Printer" "binary" "LNumberText$Binary;") ∈ gtbl := gx_c2 (List.mem_of_getElem? (i := 80) (by decide +kernel)) rfl
theorem wd_321 : (Jvm.Cond.fieldLink "NumberText$Printer" (30 : Nat) "NumberText$Printer" "head" "LNumberText$Bytes;") ∈ gtbl := gx_c2 (List.mem_of_getElem? (i := 81) (by decide +kernel)) rfl
theorem wd_322 : (Jvm.Cond.fieldLink "NumberText$Printer" (34 : Nat) "NumberText$Printer" "body" "LNumberText$Bytes;") ∈ gtbl := gx_c2 (List.mem_of_getElem? (i := 82) (by decide +kernel)) rfl
theorem wd_323 : (Jvm.Cond.fieldLink "NumberText$Printer" (37 : Nat) "NumberText$Printer" "closed" "Z") ∈ gtbl := gx_c2 (List.mem_of_getElem? (i := 83) (by decide +kernel)) rfl
theorem wd_324 : (Jvm.Cond.fieldLink "NumberText$Printer" (41 : Nat) "NumberText$Printer" "zeros" "Z") ∈ gtbl := gx_c2 (List.mem_of_getElem? (i := 84) (by decide +kernel)) rfl
theorem wd_325 : (Jvm.Cond.fieldLink "NumberText$Printer" (44 : Nat) "NumberText$Printer" "flags" "I") ∈ gtbl := gx_c2 (List.mem_of_getElem? (i := 85) (by decide +kernel)) rfl
theorem wd_326 : (Jvm.Cond.fieldLink "NumberText$Printer" (48 : Nat) "NumberText$Printer" "width" "I") ∈ gtbl := gx_c2 (List.mem_of_getElem? (i := 86) (by decide +kernel)) rfl
theorem wd_327 : (Jvm.Cond.fieldLink "NumberText$Printer" (51 : Nat) "NumberText$Printer" "precision" "I") ∈ gtbl := gx_c2 (List.mem_of_getElem? (i := 87) (by decide +kernel)) rfl
theorem wd_328 : (Jvm.Cond.fieldLink "NumberText$Printer" (54 : Nat) "NumberText$Printer" "upper" "Z") ∈ gtbl := gx_c2 (List.mem_of_getElem? (i := 88) (by decide +kernel)) rfl
theorem wd_329 : (Jvm.Cond.fieldLink "NumberText$Printer" (57 : Nat) "NumberText$Printer" "letter" "I") ∈ gtbl := gx_c2 (List.mem_of_getElem? (i := 89) (by decide +kernel)) rfl
theorem wd_330 : (Jvm.Cond.laysFinal "NumberText$Printer" "NumberText$Printer" "result" "LNumberText$Bytes;") ∈ gtbl := gx_c2 (List.mem_of_getElem? (i := 90) (by decide +kernel)) rfl
theorem wd_331 : (Jvm.Cond.soleField "NumberText$Printer" "result") ∈ gtbl := gx_c2 (List.mem_of_getElem? (i := 91) (by decide +kernel)) rfl
theorem wd_332 : (Jvm.Cond.laysFinal "NumberText$Printer" "NumberText$Printer" "arguments" "LNumberText$Arguments;") ∈ gtbl := gx_c2 (List.mem_of_getElem? (i := 92) (by decide +kernel)) rfl
theorem wd_333 : (Jvm.Cond.soleField "NumberText$Printer" "arguments") ∈ gtbl := gx_c2 (List.mem_of_getElem? (i := 93) (by decide +kernel)) rfl
theorem wd_334 : (Jvm.Cond.laysFinal "NumberText$Printer" "NumberText$Printer" "shortest" "LNumberText$Shortest;") ∈ gtbl := gx_c2 (List.mem_of_getElem? (i := 94) (by decide +kernel)) rfl
theorem wd_335 : (Jvm.Cond.soleField "NumberText$Printer" "shortest") ∈ gtbl := gx_c2 (List.mem_of_getElem? (i := 95) (by decide +kernel)) rfl
theorem wd_336 : (Jvm.Cond.laysFinal "NumberText$Printer" "NumberText$Printer" "decimal" "LNumberText$Decimal;") ∈ gtbl := gx_c2 (List.mem_of_getElem? (i := 96) (by decide +kernel)) rfl
theorem wd_337 : (Jvm.Cond.soleField "NumberText$Printer" "decimal") ∈ gtbl := gx_c2 (List.mem_of_getElem? (i := 97) (by decide +kernel)) rfl
theorem wd_338 : (Jvm.Cond.laysFinal "NumberText$Printer" "NumberText$Printer" "binary" "LNumberText$Binary;") ∈ gtbl := gx_c2 (List.mem_of_getElem? (i := 98) (by decide +kernel)) rfl
theorem wd_339 : (Jvm.Cond.soleField "NumberText$Printer" "binary") ∈ gtbl := gx_c2 (List.mem_of_getElem? (i := 99) (by decide +kernel)) rfl
theorem wd_340 : (Jvm.Cond.laysFinal "NumberText$Printer" "NumberText$Printer" "head" "LNumberText$Bytes;") ∈ gtbl := gx_c2 (List.mem_of_getElem? (i := 100) (by decide +kernel)) rfl
theorem wd_341 : (Jvm.Cond.soleField "NumberText$Printer" "head") ∈ gtbl := gx_c2 (List.mem_of_getElem? (i := 101) (by decide +kernel)) rfl
theorem wd_342 : (Jvm.Cond.laysFinal "NumberText$Printer" "NumberText$Printer" "body" "LNumberText$Bytes;") ∈ gtbl := gx_c2 (List.mem_of_getElem? (i := 102) (by decide +kernel)) rfl
theorem wd_343 : (Jvm.Cond.soleField "NumberText$Printer" "body") ∈ gtbl := gx_c2 (List.mem_of_getElem? (i := 103) (by decide +kernel)) rfl
theorem wd_344 : (Jvm.Cond.lays "NumberText$Printer" "NumberText$Printer" "closed" "Z") ∈ gtbl := gx_c2 (List.mem_of_getElem? (i := 104) (by decide +kernel)) rfl
theorem wd_345 : (Jvm.Cond.soleField "NumberText$Printer" "closed") ∈ gtbl := gx_c2 (List.mem_of_getElem? (i := 105) (by decide +kernel)) rfl
theorem wd_346 : (Jvm.Cond.lays "NumberText$Printer" "NumberText$Printer" "zeros" "Z") ∈ gtbl := gx_c2 (List.mem_of_getElem? (i := 106) (by decide +kernel)) rfl
theorem wd_347 : (Jvm.Cond.soleField "NumberText$Printer" "zeros") ∈ gtbl := gx_c2 (List.mem_of_getElem? (i := 107) (by decide +kernel)) rfl
theorem wd_348 : (Jvm.Cond.lays "NumberText$Printer" "NumberText$Printer" "flags" "I") ∈ gtbl := gx_c2 (List.mem_of_getElem? (i := 108) (by decide +kernel)) rfl
theorem wd_349 : (Jvm.Cond.soleField "NumberText$Printer" "flags") ∈ gtbl := gx_c2 (List.mem_of_getElem? (i := 109) (by decide +kernel)) rfl
theorem wd_350 : (Jvm.Cond.lays "NumberText$Printer" "NumberText$Printer" "width" "I") ∈ gtbl := gx_c2 (List.mem_of_getElem? (i := 110) (by decide +kernel)) rfl
theorem wd_351 : (Jvm.Cond.soleField "NumberText$Printer" "width") ∈ gtbl := gx_c2 (List.mem_of_getElem? (i := 111) (by decide +kernel)) rfl
theorem wd_352 : (Jvm.Cond.lays "NumberText$Printer" "NumberText$Printer" "precision" "I") ∈ gtbl := gx_c2 (List.mem_of_getElem? (i := 112) (by decide +kernel)) rfl
theorem wd_353 : (Jvm.Cond.soleField "NumberText$Printer" "precision") ∈ gtbl := gx_c2 (List.mem_of_getElem? (i := 113) (by decide +kernel)) rfl
theorem wd_354 : (Jvm.Cond.lays "NumberText$Printer" "NumberText$Printer" "upper" "Z") ∈ gtbl := gx_c2 (List.mem_of_getElem? (i := 114) (by decide +kernel)) rfl
theorem wd_355 : (Jvm.Cond.soleField "NumberText$Printer" "upper") ∈ gtbl := gx_c2 (List.mem_of_getElem? (i := 115) (by decide +kernel)) rfl
theorem wd_356 : (Jvm.Cond.lays "NumberText$Printer" "NumberText$Printer" "letter" "I") ∈ gtbl := gx_c2 (List.mem_of_getElem? (i := 116) (by decide +kernel)) rfl
theorem wd_357 : (Jvm.Cond.soleField "NumberText$Printer" "letter") ∈ gtbl := gx_c2 (List.mem_of_getElem? (i := 117) (by decide +kernel)) rfl
theorem wd_358 : (Jvm.Cond.superclass "NumberText$Printer" "java/lang/Object") ∈ gtbl := gx_c2 (List.mem_of_getElem? (i := 118) (by decide +kernel)) rfl
theorem wd_359 : (Jvm.Cond.fieldLink "NumberText" (15 : Nat) "NumberText" "tape" "LNumberText$Bytes;") ∈ gtbl := gx_c2 (List.mem_of_getElem? (i := 119) (by decide +kernel)) rfl
theorem wd_360 : (Jvm.Cond.fieldLink "NumberText" (20 : Nat) "NumberText" "result" "LNumberText$Bytes;") ∈ gtbl := gx_c2 (List.mem_of_getElem? (i := 120) (by decide +kernel)) rfl
theorem wd_361 : (Jvm.Cond.fieldLink "NumberText" (26 : Nat) "NumberText" "arguments" "LNumberText$Arguments;") ∈ gtbl := gx_c2 (List.mem_of_getElem? (i := 121) (by decide +kernel)) rfl
theorem wd_362 : (Jvm.Cond.fieldLink "NumberText" (35 : Nat) "NumberText" "reader" "LNumberText$Reader;") ∈ gtbl := gx_c2 (List.mem_of_getElem? (i := 122) (by decide +kernel)) rfl
theorem wd_363 : (Jvm.Cond.fieldLink "NumberText" (42 : Nat) "NumberText" "binary" "LNumberText$Binary;") ∈ gtbl := gx_c2 (List.mem_of_getElem? (i := 123) (by decide +kernel)) rfl
theorem wd_364 : (Jvm.Cond.fieldLink "NumberText" (49 : Nat) "NumberText" "shortest" "LNumberText$Shortest;") ∈ gtbl := gx_c2 (List.mem_of_getElem? (i := 124) (by decide +kernel)) rfl
theorem wd_365 : (Jvm.Cond.fieldLink "NumberText" (76 : Nat) "NumberText" "printer" "LNumberText$Printer;") ∈ gtbl := gx_c2 (List.mem_of_getElem? (i := 125) (by decide +kernel)) rfl
theorem wd_366 : (Jvm.Cond.fieldLink "NumberText" (55 : Nat) "NumberText" "formats" "[LNumberText$Format;") ∈ gtbl := gx_c2 (List.mem_of_getElem? (i := 126) (by decide +kernel)) rfl
theorem wd_367 : (Jvm.Cond.fieldLink "NumberText" (60 : Nat) "NumberText" "spare" "LNumberText$Format;") ∈ gtbl := gx_c2 (List.mem_of_getElem? (i := 127) (by decide +kernel)) rfl
theorem wd_368 : (Jvm.Cond.fieldLink "NumberText" (64 : Nat) "NumberText" "formatCount" "I") ∈ gtbl := gx_c2 (List.mem_of_getElem? (i := 128) (by decide +kernel)) rfl
theorem wd_369 : (Jvm.Cond.fieldLink "NumberText" (68 : Nat) "NumberText" "place" "I") ∈ gtbl := gx_c2 (List.mem_of_getElem? (i := 129) (by decide +kernel)) rfl
theorem wd_370 : (Jvm.Cond.laysFinal "NumberText" "NumberText" "tape" "LNumberText$Bytes;") ∈ gtbl := gx_c2 (List.mem_of_getElem? (i := 130) (by decide +kernel)) rfl
theorem wd_371 : (Jvm.Cond.soleField "NumberText" "tape") ∈ gtbl := gx_c2 (List.mem_of_getElem? (i := 131) (by decide +kernel)) rfl
theorem wd_372 : (Jvm.Cond.laysFinal "NumberText" "NumberText" "result" "LNumberText$Bytes;") ∈ gtbl := gx_c2 (List.mem_of_getElem? (i := 132) (by decide +kernel)) rfl
theorem wd_373 : (Jvm.Cond.soleField "NumberText" "result") ∈ gtbl := gx_c2 (List.mem_of_getElem? (i := 133) (by decide +kernel)) rfl
theorem wd_374 : (Jvm.Cond.laysFinal "NumberText" "NumberText" "arguments" "LNumberText$Arguments;") ∈ gtbl := gx_c2 (List.mem_of_getElem? (i := 134) (by decide +kernel)) rfl
theorem wd_375 : (Jvm.Cond.soleField "NumberText" "arguments") ∈ gtbl := gx_c2 (List.mem_of_getElem? (i := 135) (by decide +kernel)) rfl
theorem wd_376 : (Jvm.Cond.laysFinal "NumberText" "NumberText" "reader" "LNumberText$Reader;") ∈ gtbl := gx_c2 (List.mem_of_getElem? (i := 136) (by decide +kernel)) rfl
theorem wd_377 : (Jvm.Cond.soleField "NumberText" "reader") ∈ gtbl := gx_c2 (List.mem_of_getElem? (i := 137) (by decide +kernel)) rfl
theorem wd_378 : (Jvm.Cond.laysFinal "NumberText" "NumberText" "binary" "LNumberText$Binary;") ∈ gtbl := gx_c2 (List.mem_of_getElem? (i := 138) (by decide +kernel)) rfl
theorem wd_379 : (Jvm.Cond.soleField "NumberText" "binary") ∈ gtbl := gx_c2 (List.mem_of_getElem? (i := 139) (by decide +kernel)) rfl
theorem wd_380 : (Jvm.Cond.laysFinal "NumberText" "NumberText" "shortest" "LNumberText$Shortest;") ∈ gtbl := gx_c2 (List.mem_of_getElem? (i := 140) (by decide +kernel)) rfl
theorem wd_381 : (Jvm.Cond.soleField "NumberText" "shortest") ∈ gtbl := gx_c2 (List.mem_of_getElem? (i := 141) (by decide +kernel)) rfl
theorem wd_382 : (Jvm.Cond.laysFinal "NumberText" "NumberText" "printer" "LNumberText$Printer;") ∈ gtbl := gx_c2 (List.mem_of_getElem? (i := 142) (by decide +kernel)) rfl
theorem wd_383 : (Jvm.Cond.soleField "NumberText" "printer") ∈ gtbl := gx_c2 (List.mem_of_getElem? (i := 143) (by decide +kernel)) rfl
theorem wd_384 : (Jvm.Cond.laysFinal "NumberText" "NumberText" "formats" "[LNumberText$Format;") ∈ gtbl := gx_c2 (List.mem_of_getElem? (i := 144) (by decide +kernel)) rfl
theorem wd_385 : (Jvm.Cond.soleField "NumberText" "formats") ∈ gtbl := gx_c2 (List.mem_of_getElem? (i := 145) (by decide +kernel)) rfl
theorem wd_386 : (Jvm.Cond.lays "NumberText" "NumberText" "spare" "LNumberText$Format;") ∈ gtbl := gx_c2 (List.mem_of_getElem? (i := 146) (by decide +kernel)) rfl
theorem wd_387 : (Jvm.Cond.soleField "NumberText" "spare") ∈ gtbl := gx_c2 (List.mem_of_getElem? (i := 147) (by decide +kernel)) rfl
theorem wd_388 : (Jvm.Cond.lays "NumberText" "NumberText" "formatCount" "I") ∈ gtbl := gx_c2 (List.mem_of_getElem? (i := 148) (by decide +kernel)) rfl
theorem wd_389 : (Jvm.Cond.soleField "NumberText" "formatCount") ∈ gtbl := gx_c2 (List.mem_of_getElem? (i := 149) (by decide +kernel)) rfl
theorem wd_390 : (Jvm.Cond.lays "NumberText" "NumberText" "place" "I") ∈ gtbl := gx_c2 (List.mem_of_getElem? (i := 150) (by decide +kernel)) rfl
theorem wd_391 : (Jvm.Cond.soleField "NumberText" "place") ∈ gtbl := gx_c2 (List.mem_of_getElem? (i := 151) (by decide +kernel)) rfl
theorem wd_392 : (Jvm.Cond.superclass "NumberText" "java/lang/Object") ∈ gtbl := gx_c2 (List.mem_of_getElem? (i := 152) (by decide +kernel)) rfl
theorem wd_393 : (Jvm.Cond.methodLink "NumberTextLaw" (78 : Nat) ({ cls := "NumberText", name := "print", desc := "(J)I" } : Jvm.MethodName)) ∈ gtbl := gx_c2 (List.mem_of_getElem? (i := 153) (by decide +kernel)) rfl
theorem wd_394 : (Jvm.Cond.instanceMethod ({ cls := "NumberText", name := "print", desc := "(J)I" } : Jvm.MethodName)) ∈ gtbl := gx_c2 (List.mem_of_getElem? (i := 154) (by decide +kernel)) rfl
theorem wd_395 : (Jvm.Cond.selects "NumberText" ({ cls := "NumberText", name := "print", desc := "(J)I" } : Jvm.MethodName) ({ cls := "NumberText", name := "print", desc := "(J)I" } : Jvm.MethodName)) ∈ gtbl := gx_c2 (List.mem_of_getElem? (i := 155) (by decide +kernel)) rfl
theorem wd_396 : (Jvm.Cond.code ({ cls := "NumberText", name := "print", desc := "(J)I" } : Jvm.MethodName) prog_1_method_4_code (3 : Nat) (Option.some FieldType.int)) ∈ gtbl := gx_c2 (List.mem_of_getElem? (i := 156) rfl) rfl
theorem wd_397 : (Jvm.Cond.fieldLink "NumberText" (102 : Nat) "NumberText$Size" "DOUBLE" "LNumberText$Size;") ∈ gtbl := gx_c2 (List.mem_of_getElem? (i := 157) (by decide +kernel)) rfl
theorem wd_398 : (Jvm.Cond.methodLink "NumberText" (108 : Nat) ({ cls := "NumberText$Binary", name := "take", desc := "(LNumberText$Size;J)V" } : Jvm.MethodName)) ∈ gtbl := gx_c2 (List.mem_of_getElem? (i := 158) (by decide +kernel)) rfl
theorem wd_399 : (Jvm.Cond.instanceMethod ({ cls := "NumberText$Binary", name := "take", desc := "(LNumberText$Size;J)V" } : Jvm.MethodName)) ∈ gtbl := gx_c2 (List.mem_of_getElem? (i := 159) (by decide +kernel)) rfl
theorem wd_400 : (Jvm.Cond.selects "NumberText$Binary" ({ cls := "NumberText$Binary", name := "take", desc := "(LNumberText$Size;J)V" } : Jvm.MethodName) ({ cls := "NumberText$Binary", name := "take", desc := "(LNumberText$Size;J)V" } : Jvm.MethodName)) ∈ gtbl := gx_c2 (List.mem_of_getElem? (i := 160) (by decide +kernel)) rfl
theorem wd_401 : (Jvm.Cond.code ({ cls := "NumberText$Binary", name := "take", desc := "(LNumberText$Size;J)V" } : Jvm.MethodName) prog_4_method_2_code (8 : Nat) (Option.none : Option FieldType)) ∈ gtbl := gx_c2 (List.mem_of_getElem? (i := 161) rfl) rfl
theorem wd_402 : (Jvm.Cond.methodLink "NumberText$Binary" (36 : Nat) ({ cls := "NumberText$Size", name := "fractionMask", desc := "()J" } : Jvm.MethodName)) ∈ gtbl := gx_c2 (List.mem_of_getElem? (i := 162) (by decide +kernel)) rfl
theorem wd_403 : (Jvm.Cond.instanceMethod ({ cls := "NumberText$Size", name := "fractionMask", desc := "()J" } : Jvm.MethodName)) ∈ gtbl := gx_c2 (List.mem_of_getElem? (i := 163) (by decide +kernel)) rfl
theorem wd_404 : (Jvm.Cond.selects "NumberText$Size" ({ cls := "NumberText$Size", name := "fractionMask", desc := "()J" } : Jvm.MethodName) ({ cls := "NumberText$Size", name := "fractionMask", desc := "()J" } : Jvm.MethodName)) ∈ gtbl := gx_c2 (List.mem_of_getElem? (i := 164) (by decide +kernel)) rfl
theorem wd_405 : (Jvm.Cond.code ({ cls := "NumberText$Size", name := "fractionMask", desc := "()J" } : Jvm.MethodName) prog_11_method_4_code (1 : Nat) (Option.some FieldType.long)) ∈ gtbl := gx_c2 (List.mem_of_getElem? (i := 165) rfl) rfl
theorem wd_406 : (Jvm.Cond.methodLink "NumberText$Binary" (43 : Nat) ({ cls := "NumberText$Size", name := "exponentMask", desc := "()I" } : Jvm.MethodName)) ∈ gtbl := gx_c2 (List.mem_of_getElem? (i := 166) (by decide +kernel)) rfl
theorem wd_407 : (Jvm.Cond.instanceMethod ({ cls := "NumberText$Size", name := "exponentMask", desc := "()I" } : Jvm.MethodName)) ∈ gtbl := gx_c2 (List.mem_of_getElem? (i := 167) (by decide +kernel)) rfl
theorem wd_408 : (Jvm.Cond.selects "NumberText$Size" ({ cls := "NumberText$Size", name := "exponentMask", desc := "()I" } : Jvm.MethodName) ({ cls := "NumberText$Size", name := "exponentMask", desc := "()I" } : Jvm.MethodName)) ∈ gtbl := gx_c2 (List.mem_of_getElem? (i := 168) (by decide +kernel)) rfl
theorem wd_409 : (Jvm.Cond.code ({ cls := "NumberText$Size", name := "exponentMask", desc := "()I" } : Jvm.MethodName) prog_11_method_5_code (1 : Nat) (Option.some FieldType.int)) ∈ gtbl := gx_c2 (List.mem_of_getElem? (i := 169) rfl) rfl
theorem wd_410 : (Jvm.Cond.methodLink "NumberText$Binary" (53 : Nat) ({ cls := "java/lang/Math", name := "max", desc := "(II)I" } : Jvm.MethodName)) ∈ gtbl := gx_c2 (List.mem_of_getElem? (i := 170) (by decide +kernel)) rfl
theorem wd_411 : (Jvm.Cond.static ({ cls := "java/lang/Math", name := "max", desc := "(II)I" } : Jvm.MethodName)) ∈ gtbl := gx_c2 (List.mem_of_getElem? (i := 171) (by decide +kernel)) rfl
theorem wd_412 : (Jvm.Cond.code ({ cls := "java/lang/Math", name := "max", desc := "(II)I" } : Jvm.MethodName) prog_23_method_65_code (2 : Nat) (Option.some FieldType.int)) ∈ gtbl := gx_c2 (List.mem_of_getElem? (i := 172) rfl) rfl
theorem wd_413 : (Jvm.Cond.methodLink "NumberText" (99 : Nat) ({ cls := "NumberText$Bytes", name := "keep", desc := "(I)V" } : Jvm.MethodName)) ∈ gtbl := gx_c2 (List.mem_of_getElem? (i := 173) (by decide +kernel)) rfl
theorem wd_414 : (Jvm.Cond.instanceMethod ({ cls := "NumberText$Bytes", name := "keep", desc := "(I)V" } : Jvm.MethodName)) ∈ gtbl := gx_c2 (List.mem_of_getElem? (i := 174) (by decide +kernel)) rfl
theorem wd_415 : (Jvm.Cond.selects "NumberText$Bytes" ({ cls := "NumberText$Bytes", name := "keep", desc := "(I)V" } : Jvm.MethodName) ({ cls := "NumberText$Bytes", name := "keep", desc := "(I)V" } : Jvm.MethodName)) ∈ gtbl := gx_c2 (List.mem_of_getElem? (i := 175) (by decide +kernel)) rfl
theorem wd_416 : (Jvm.Cond.code ({ cls := "NumberText$Bytes", name := "keep", desc := "(I)V" } : Jvm.MethodName) prog_5_method_2_code (2 : Nat) (Option.none : Option FieldType)) ∈ gtbl := gx_c2 (List.mem_of_getElem? (i := 176) rfl) rfl
theorem wd_417 : (Jvm.Cond.methodLink "NumberText$Bytes" (23 : Nat) ({ cls := "java/lang/Math", name := "max", desc := "(II)I" } : Jvm.MethodName)) ∈ gtbl := gx_c2 (List.mem_of_getElem? (i := 177) (by decide +kernel)) rfl
