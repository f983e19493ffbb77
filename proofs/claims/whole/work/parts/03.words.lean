/-! ===== each word of the tables, by its place ===== -/
theorem k_0 : (.selects "ReturnRows" ⟨"ReturnRows","sum","(III)I"⟩ ⟨"ReturnRows","sum","(III)I"⟩ : Cond) ∈ lw_tbl := List.mem_of_getElem? (i := 0) rfl
theorem k_1 : (.selects "ReturnRows" ⟨"ReturnRows","backOfClass","(I)I"⟩ ⟨"ReturnRows","backOfClass","(I)I"⟩ : Cond) ∈ lw_tbl := List.mem_of_getElem? (i := 1) rfl
theorem k_2 : (.selects "java/lang/Throwable" ⟨"java/lang/Throwable","fillInStackTrace","(I)Ljava/lang/Throwable;"⟩ ⟨"java/lang/Throwable","fillInStackTrace","(I)Ljava/lang/Throwable;"⟩ : Cond) ∈ lw_tbl := List.mem_of_getElem? (i := 2) rfl
theorem k_3 : (.selects "ReturnRows" ⟨"ReturnRows","saleAt","(I)LReturnRows$Sale;"⟩ ⟨"ReturnRows","saleAt","(I)LReturnRows$Sale;"⟩ : Cond) ∈ lw_tbl := List.mem_of_getElem? (i := 3) rfl
theorem k_4 : (.selects "ReturnRows" ⟨"ReturnRows","returnAt","(I)LReturnRows$Return;"⟩ ⟨"ReturnRows","returnAt","(I)LReturnRows$Return;"⟩ : Cond) ∈ lw_tbl := List.mem_of_getElem? (i := 4) rfl
theorem k_5 : (.selects "ReturnRows" ⟨"ReturnRows","isCertificateUsed","(I)Z"⟩ ⟨"ReturnRows","isCertificateUsed","(I)Z"⟩ : Cond) ∈ lw_tbl := List.mem_of_getElem? (i := 5) rfl
theorem k_6 : (.selects "ReturnRows" ⟨"ReturnRows","salesTo","(I)I"⟩ ⟨"ReturnRows","salesTo","(I)I"⟩ : Cond) ∈ lw_tbl := List.mem_of_getElem? (i := 6) rfl
theorem k_7 : (.selects "ReturnRows" ⟨"ReturnRows","isMarked","(I)Z"⟩ ⟨"ReturnRows","isMarked","(I)Z"⟩ : Cond) ∈ lw_tbl := List.mem_of_getElem? (i := 7) rfl
theorem k_8 : (.selects "ReturnRows" ⟨"ReturnRows","recentReturnsOf","(I)I"⟩ ⟨"ReturnRows","recentReturnsOf","(I)I"⟩ : Cond) ∈ lw_tbl := List.mem_of_getElem? (i := 8) rfl
theorem k_9 : (.selects "ReturnRowsModel" ⟨"ReturnRowsModel","isSale","(I)Z"⟩ ⟨"ReturnRowsModel","isSale","(I)Z"⟩ : Cond) ∈ lw_tbl := List.mem_of_getElem? (i := 9) rfl
theorem k_10 : (.selects "ReturnRowsModel" ⟨"ReturnRowsModel","hasReturn","(I)Z"⟩ ⟨"ReturnRowsModel","hasReturn","(I)Z"⟩ : Cond) ∈ lw_tbl := List.mem_of_getElem? (i := 10) rfl
theorem k_11 : (.selects "ReturnRowsModel" ⟨"ReturnRowsModel","isReturn","(I)Z"⟩ ⟨"ReturnRowsModel","isReturn","(I)Z"⟩ : Cond) ∈ lw_tbl := List.mem_of_getElem? (i := 11) rfl
theorem k_12 : (.selects "ReturnRowsModel" ⟨"ReturnRowsModel","isSeen","(I)Z"⟩ ⟨"ReturnRowsModel","isSeen","(I)Z"⟩ : Cond) ∈ lw_tbl := List.mem_of_getElem? (i := 12) rfl
theorem k_13 : (.selects "ReturnRowsModel" ⟨"ReturnRowsModel","regrade","(II)V"⟩ ⟨"ReturnRowsModel","regrade","(II)V"⟩ : Cond) ∈ lw_tbl := List.mem_of_getElem? (i := 13) rfl
theorem k_14 : (.selects "ReturnRowsModel" ⟨"ReturnRowsModel","backs","(I)I"⟩ ⟨"ReturnRowsModel","backs","(I)I"⟩ : Cond) ∈ lw_tbl := List.mem_of_getElem? (i := 14) rfl
theorem k_15 : (.selects "ReturnRowsModel" ⟨"ReturnRowsModel","dueOf","(I)I"⟩ ⟨"ReturnRowsModel","dueOf","(I)I"⟩ : Cond) ∈ lw_tbl := List.mem_of_getElem? (i := 15) rfl
theorem k_16 : (.selects "ReturnRowsModel" ⟨"ReturnRowsModel","returnsOf","(IZ)I"⟩ ⟨"ReturnRowsModel","returnsOf","(IZ)I"⟩ : Cond) ∈ lw_tbl := List.mem_of_getElem? (i := 16) rfl
theorem k_17 : (.initialized "ReturnRowsLaw" : Cond) ∈ lw_tbl := List.mem_of_getElem? (i := 17) rfl
theorem k_18 : (.initialized "ReturnRows" : Cond) ∈ lw_tbl := List.mem_of_getElem? (i := 18) rfl
theorem k_19 : (.initialized "ReturnRowsModel" : Cond) ∈ lw_tbl := List.mem_of_getElem? (i := 19) rfl
theorem k_20 : (.initialized "java/lang/Throwable" : Cond) ∈ lw_tbl := List.mem_of_getElem? (i := 20) rfl
theorem k_21 : (.initialized "java/lang/Exception" : Cond) ∈ lw_tbl := List.mem_of_getElem? (i := 21) rfl
theorem k_22 : (.initialized "java/lang/RuntimeException" : Cond) ∈ lw_tbl := List.mem_of_getElem? (i := 22) rfl
theorem k_23 : (.initialized "java/lang/IllegalArgumentException" : Cond) ∈ lw_tbl := List.mem_of_getElem? (i := 23) rfl
theorem k_24 : (.initialized "java/lang/UnsupportedOperationException" : Cond) ∈ lw_tbl := List.mem_of_getElem? (i := 24) rfl
theorem k_25 : (.initialized "ReturnRows$Sale" : Cond) ∈ lw_tbl := List.mem_of_getElem? (i := 25) rfl
theorem k_26 : (.initialized "java/util/NoSuchElementException" : Cond) ∈ lw_tbl := List.mem_of_getElem? (i := 26) rfl
theorem k_27 : (.initialized "java/lang/IllegalStateException" : Cond) ∈ lw_tbl := List.mem_of_getElem? (i := 27) rfl
theorem k_28 : (.initialized "ReturnRows$Return" : Cond) ∈ lw_tbl := List.mem_of_getElem? (i := 28) rfl
theorem k_29 : (.initialized "java/lang/Integer" : Cond) ∈ lw_tbl := List.mem_of_getElem? (i := 29) rfl
theorem k_30 : (.initialized "java/lang/Math" : Cond) ∈ lw_tbl := List.mem_of_getElem? (i := 30) rfl
theorem k_31 : (.classLink "ReturnRowsLaw" 8 "ReturnRows" : Cond) ∈ lw_tbl := List.mem_of_getElem? (i := 31) rfl
theorem k_32 : (.instantiable "ReturnRows" 5 : Cond) ∈ lw_tbl := List.mem_of_getElem? (i := 32) rfl
theorem k_33 : (.methodLink "ReturnRowsLaw" 80 ⟨"ReturnRows","<init>","()V"⟩ : Cond) ∈ lw_tbl := List.mem_of_getElem? (i := 33) rfl
theorem k_34 : (.instanceMethod ⟨"ReturnRows","<init>","()V"⟩ : Cond) ∈ lw_tbl := List.mem_of_getElem? (i := 34) rfl
theorem k_35 : (.code ⟨"ReturnRows","<init>","()V"⟩ prog_1_method_1_code 1 (Option.none : Option FieldType) : Cond) ∈ lw_tbl := List.mem_of_getElem? (i := 35) rfl
theorem k_36 : (.methodLink "ReturnRows" 1 ⟨"java/lang/Object","<init>","()V"⟩ : Cond) ∈ lw_tbl := List.mem_of_getElem? (i := 36) rfl
theorem k_37 : (.instanceMethod ⟨"java/lang/Object","<init>","()V"⟩ : Cond) ∈ lw_tbl := List.mem_of_getElem? (i := 37) rfl
theorem k_38 : (.code ⟨"java/lang/Object","<init>","()V"⟩ object_method_1_code 1 (Option.none : Option FieldType) : Cond) ∈ lw_tbl := List.mem_of_getElem? (i := 38) rfl
theorem k_39 : (.classLink "ReturnRows" 9 "ReturnRows$Sale" : Cond) ∈ lw_tbl := List.mem_of_getElem? (i := 39) rfl
theorem k_40 : (.arrayOver (FieldType.object "ReturnRows$Sale") : Cond) ∈ lw_tbl := List.mem_of_getElem? (i := 40) rfl
theorem k_41 : (.classLink "ReturnRows" 15 "ReturnRows$Return" : Cond) ∈ lw_tbl := List.mem_of_getElem? (i := 41) rfl
theorem k_42 : (.arrayOver (FieldType.object "ReturnRows$Return") : Cond) ∈ lw_tbl := List.mem_of_getElem? (i := 42) rfl
theorem k_43 : (.fieldLink "ReturnRows" 11 "ReturnRows" "sales" "[LReturnRows$Sale;" : Cond) ∈ lw_tbl := List.mem_of_getElem? (i := 43) rfl
theorem k_44 : (.fieldLink "ReturnRows" 17 "ReturnRows" "returns" "[LReturnRows$Return;" : Cond) ∈ lw_tbl := List.mem_of_getElem? (i := 44) rfl
theorem k_45 : (.fieldLink "ReturnRows" 30 "ReturnRows" "saleCount" "I" : Cond) ∈ lw_tbl := List.mem_of_getElem? (i := 45) rfl
theorem k_46 : (.fieldLink "ReturnRows" 56 "ReturnRows" "returnCount" "I" : Cond) ∈ lw_tbl := List.mem_of_getElem? (i := 46) rfl
theorem k_47 : (.fieldLink "ReturnRows" 21 "ReturnRows" "today" "I" : Cond) ∈ lw_tbl := List.mem_of_getElem? (i := 47) rfl
theorem k_48 : (.laysFinal "ReturnRows" "ReturnRows" "sales" "[LReturnRows$Sale;" : Cond) ∈ lw_tbl := List.mem_of_getElem? (i := 48) rfl
theorem k_49 : (.soleField "ReturnRows" "sales" : Cond) ∈ lw_tbl := List.mem_of_getElem? (i := 49) rfl
theorem k_50 : (.laysFinal "ReturnRows" "ReturnRows" "returns" "[LReturnRows$Return;" : Cond) ∈ lw_tbl := List.mem_of_getElem? (i := 50) rfl
theorem k_51 : (.soleField "ReturnRows" "returns" : Cond) ∈ lw_tbl := List.mem_of_getElem? (i := 51) rfl
theorem k_52 : (.lays "ReturnRows" "ReturnRows" "saleCount" "I" : Cond) ∈ lw_tbl := List.mem_of_getElem? (i := 52) rfl
theorem k_53 : (.soleField "ReturnRows" "saleCount" : Cond) ∈ lw_tbl := List.mem_of_getElem? (i := 53) rfl
theorem k_54 : (.lays "ReturnRows" "ReturnRows" "returnCount" "I" : Cond) ∈ lw_tbl := List.mem_of_getElem? (i := 54) rfl
theorem k_55 : (.soleField "ReturnRows" "returnCount" : Cond) ∈ lw_tbl := List.mem_of_getElem? (i := 55) rfl
theorem k_56 : (.lays "ReturnRows" "ReturnRows" "today" "I" : Cond) ∈ lw_tbl := List.mem_of_getElem? (i := 56) rfl
theorem k_57 : (.soleField "ReturnRows" "today" : Cond) ∈ lw_tbl := List.mem_of_getElem? (i := 57) rfl
theorem k_58 : (.superclass "ReturnRows" "java/lang/Object" : Cond) ∈ lw_tbl := List.mem_of_getElem? (i := 58) rfl
theorem k_59 : (.methodLink "ReturnRowsLaw" 152 ⟨"ReturnRows","count","(I)I"⟩ : Cond) ∈ lw_tbl := List.mem_of_getElem? (i := 59) rfl
theorem k_60 : (.instanceMethod ⟨"ReturnRows","count","(I)I"⟩ : Cond) ∈ lw_tbl := List.mem_of_getElem? (i := 60) rfl
theorem k_61 : (.selects "ReturnRows" ⟨"ReturnRows","count","(I)I"⟩ ⟨"ReturnRows","count","(I)I"⟩ : Cond) ∈ lw_tbl := List.mem_of_getElem? (i := 61) rfl
theorem k_62 : (.code ⟨"ReturnRows","count","(I)I"⟩ prog_1_method_20_code 2 (Option.some FieldType.int) : Cond) ∈ lw_tbl := List.mem_of_getElem? (i := 62) rfl
theorem k_63 : (.methodLink "ReturnRows" 167 ⟨"ReturnRows","sum","(III)I"⟩ : Cond) ∈ lw_tbl := List.mem_of_getElem? (i := 63) rfl
theorem k_64 : (.privateMethod ⟨"ReturnRows","sum","(III)I"⟩ : Cond) ∈ lw_tbl := List.mem_of_getElem? (i := 64) rfl
theorem k_65 : (.instanceMethod ⟨"ReturnRows","sum","(III)I"⟩ : Cond) ∈ lw_tbl := List.mem_of_getElem? (i := 65) rfl
theorem k_66 : (.code ⟨"ReturnRows","sum","(III)I"⟩ prog_1_method_33_code 9 (Option.some FieldType.int) : Cond) ∈ lw_tbl := List.mem_of_getElem? (i := 66) rfl
theorem k_67 : (.methodLink "ReturnRows" 218 ⟨"ReturnRows$Return","isOf","(II)Z"⟩ : Cond) ∈ lw_tbl := List.mem_of_getElem? (i := 67) rfl
theorem k_68 : (.instanceMethod ⟨"ReturnRows$Return","isOf","(II)Z"⟩ : Cond) ∈ lw_tbl := List.mem_of_getElem? (i := 68) rfl
theorem k_69 : (.selects "ReturnRows$Return" ⟨"ReturnRows$Return","isOf","(II)Z"⟩ ⟨"ReturnRows$Return","isOf","(II)Z"⟩ : Cond) ∈ lw_tbl := List.mem_of_getElem? (i := 69) rfl
theorem k_70 : (.code ⟨"ReturnRows$Return","isOf","(II)Z"⟩ prog_2_method_3_code 3 (Option.some FieldType.boolean) : Cond) ∈ lw_tbl := List.mem_of_getElem? (i := 70) rfl
theorem k_71 : (.methodLink "ReturnRows" 222 ⟨"ReturnRows$Return","measured","(I)I"⟩ : Cond) ∈ lw_tbl := List.mem_of_getElem? (i := 71) rfl
theorem k_72 : (.instanceMethod ⟨"ReturnRows$Return","measured","(I)I"⟩ : Cond) ∈ lw_tbl := List.mem_of_getElem? (i := 72) rfl
theorem k_73 : (.selects "ReturnRows$Return" ⟨"ReturnRows$Return","measured","(I)I"⟩ ⟨"ReturnRows$Return","measured","(I)I"⟩ : Cond) ∈ lw_tbl := List.mem_of_getElem? (i := 73) rfl
theorem k_74 : (.code ⟨"ReturnRows$Return","measured","(I)I"⟩ prog_2_method_4_code 2 (Option.some FieldType.int) : Cond) ∈ lw_tbl := List.mem_of_getElem? (i := 74) rfl
theorem k_75 : (.methodLink "ReturnRows" 152 ⟨"ReturnRows","backOfClass","(I)I"⟩ : Cond) ∈ lw_tbl := List.mem_of_getElem? (i := 75) rfl
theorem k_76 : (.privateMethod ⟨"ReturnRows","backOfClass","(I)I"⟩ : Cond) ∈ lw_tbl := List.mem_of_getElem? (i := 76) rfl
theorem k_77 : (.instanceMethod ⟨"ReturnRows","backOfClass","(I)I"⟩ : Cond) ∈ lw_tbl := List.mem_of_getElem? (i := 77) rfl
theorem k_78 : (.code ⟨"ReturnRows","backOfClass","(I)I"⟩ prog_1_method_29_code 7 (Option.some FieldType.int) : Cond) ∈ lw_tbl := List.mem_of_getElem? (i := 78) rfl
theorem k_79 : (.methodLink "ReturnRowsLaw" 84 ⟨"ReturnRowsLaw","day","(LReturnRows;I)I"⟩ : Cond) ∈ lw_tbl := List.mem_of_getElem? (i := 79) rfl
theorem k_80 : (.static ⟨"ReturnRowsLaw","day","(LReturnRows;I)I"⟩ : Cond) ∈ lw_tbl := List.mem_of_getElem? (i := 80) rfl
theorem k_81 : (.codeWith ⟨"ReturnRowsLaw","day","(LReturnRows;I)I"⟩ method_3_code 3 (Option.some FieldType.int) [(0, 5, 8, 13)] : Cond) ∈ lw_tbl := List.mem_of_getElem? (i := 81) rfl
theorem k_82 : (.classLink "ReturnRowsLaw" 13 "java/lang/IllegalArgumentException" : Cond) ∈ lw_tbl := List.mem_of_getElem? (i := 82) rfl
theorem k_83 : (.methodLink "ReturnRowsLaw" 7 ⟨"ReturnRows","day","(I)V"⟩ : Cond) ∈ lw_tbl := List.mem_of_getElem? (i := 83) rfl
theorem k_84 : (.instanceMethod ⟨"ReturnRows","day","(I)V"⟩ : Cond) ∈ lw_tbl := List.mem_of_getElem? (i := 84) rfl
theorem k_85 : (.selects "ReturnRows" ⟨"ReturnRows","day","(I)V"⟩ ⟨"ReturnRows","day","(I)V"⟩ : Cond) ∈ lw_tbl := List.mem_of_getElem? (i := 85) rfl
theorem k_86 : (.code ⟨"ReturnRows","day","(I)V"⟩ prog_1_method_2_code 2 (Option.none : Option FieldType) : Cond) ∈ lw_tbl := List.mem_of_getElem? (i := 86) rfl
theorem k_87 : (.methodLink "ReturnRows" 25 ⟨"ReturnRows","requireWithin","(III)V"⟩ : Cond) ∈ lw_tbl := List.mem_of_getElem? (i := 87) rfl
theorem k_88 : (.static ⟨"ReturnRows","requireWithin","(III)V"⟩ : Cond) ∈ lw_tbl := List.mem_of_getElem? (i := 88) rfl
theorem k_89 : (.code ⟨"ReturnRows","requireWithin","(III)V"⟩ prog_1_method_23_code 3 (Option.none : Option FieldType) : Cond) ∈ lw_tbl := List.mem_of_getElem? (i := 89) rfl
theorem k_90 : (.classLink "ReturnRows" 171 "java/lang/IllegalArgumentException" : Cond) ∈ lw_tbl := List.mem_of_getElem? (i := 90) rfl
theorem k_91 : (.instantiable "java/lang/IllegalArgumentException" 6 : Cond) ∈ lw_tbl := List.mem_of_getElem? (i := 91) rfl
theorem k_92 : (.castable "java/lang/IllegalArgumentException" "java/lang/IllegalArgumentException" : Cond) ∈ lw_tbl := List.mem_of_getElem? (i := 92) rfl
theorem k_93 : (.declares ⟨"java/lang/RuntimeException","<init>","()V"⟩ : Cond) ∈ lw_tbl := List.mem_of_getElem? (i := 93) rfl
theorem k_94 : (.declares ⟨"java/lang/RuntimeException","<init>","(Ljava/lang/String;)V"⟩ : Cond) ∈ lw_tbl := List.mem_of_getElem? (i := 94) rfl
theorem k_95 : (.declares ⟨"java/lang/Exception","<init>","()V"⟩ : Cond) ∈ lw_tbl := List.mem_of_getElem? (i := 95) rfl
theorem k_96 : (.declares ⟨"java/lang/Exception","<init>","(Ljava/lang/String;)V"⟩ : Cond) ∈ lw_tbl := List.mem_of_getElem? (i := 96) rfl
theorem k_97 : (.declares ⟨"java/lang/Throwable","<init>","()V"⟩ : Cond) ∈ lw_tbl := List.mem_of_getElem? (i := 97) rfl
theorem k_98 : (.declares ⟨"java/lang/Throwable","<init>","(Ljava/lang/String;)V"⟩ : Cond) ∈ lw_tbl := List.mem_of_getElem? (i := 98) rfl
theorem k_99 : (.selects "java/lang/IllegalArgumentException" ⟨"java/lang/Throwable","fillInStackTrace","(I)Ljava/lang/Throwable;"⟩ ⟨"java/lang/Throwable","fillInStackTrace","(I)Ljava/lang/Throwable;"⟩ : Cond) ∈ lw_tbl := List.mem_of_getElem? (i := 99) rfl
theorem k_100 : (.selects "java/lang/IllegalArgumentException" ⟨"java/lang/Throwable","fillInStackTrace","()Ljava/lang/Throwable;"⟩ ⟨"java/lang/Throwable","fillInStackTrace","()Ljava/lang/Throwable;"⟩ : Cond) ∈ lw_tbl := List.mem_of_getElem? (i := 100) rfl
theorem k_101 : (.lays "java/lang/IllegalArgumentException" "java/lang/Throwable" "cause" "Ljava/lang/Throwable;" : Cond) ∈ lw_tbl := List.mem_of_getElem? (i := 101) rfl
theorem k_102 : (.lays "java/lang/Throwable" "java/lang/Throwable" "cause" "Ljava/lang/Throwable;" : Cond) ∈ lw_tbl := List.mem_of_getElem? (i := 102) rfl
theorem k_103 : (.lays "java/lang/IllegalArgumentException" "java/lang/Throwable" "stackTrace" "[Ljava/lang/StackTraceElement;" : Cond) ∈ lw_tbl := List.mem_of_getElem? (i := 103) rfl
theorem k_104 : (.lays "java/lang/Throwable" "java/lang/Throwable" "stackTrace" "[Ljava/lang/StackTraceElement;" : Cond) ∈ lw_tbl := List.mem_of_getElem? (i := 104) rfl
theorem k_105 : (.lays "java/lang/IllegalArgumentException" "java/lang/Throwable" "suppressedExceptions" "Ljava/util/List;" : Cond) ∈ lw_tbl := List.mem_of_getElem? (i := 105) rfl
theorem k_106 : (.lays "java/lang/Throwable" "java/lang/Throwable" "suppressedExceptions" "Ljava/util/List;" : Cond) ∈ lw_tbl := List.mem_of_getElem? (i := 106) rfl
theorem k_107 : (.lays "java/lang/IllegalArgumentException" "java/lang/Throwable" "detailMessage" "Ljava/lang/String;" : Cond) ∈ lw_tbl := List.mem_of_getElem? (i := 107) rfl
theorem k_108 : (.lays "java/lang/Throwable" "java/lang/Throwable" "detailMessage" "Ljava/lang/String;" : Cond) ∈ lw_tbl := List.mem_of_getElem? (i := 108) rfl
theorem k_109 : (.lays "java/lang/IllegalArgumentException" "java/lang/Throwable" "backtrace" "Ljava/lang/Object;" : Cond) ∈ lw_tbl := List.mem_of_getElem? (i := 109) rfl
theorem k_110 : (.lays "java/lang/Throwable" "java/lang/Throwable" "backtrace" "Ljava/lang/Object;" : Cond) ∈ lw_tbl := List.mem_of_getElem? (i := 110) rfl
theorem k_111 : (.fieldLink "java/lang/Throwable" 198 "java/lang/Throwable" "backtrace" "Ljava/lang/Object;" : Cond) ∈ lw_tbl := List.mem_of_getElem? (i := 111) rfl
theorem k_112 : (.superclass "java/lang/Throwable" "java/lang/Object" : Cond) ∈ lw_tbl := List.mem_of_getElem? (i := 112) rfl
theorem k_113 : (.instanceMethod ⟨"java/lang/Throwable","<init>","()V"⟩ : Cond) ∈ lw_tbl := List.mem_of_getElem? (i := 113) rfl
theorem k_114 : (.code ⟨"java/lang/Throwable","<init>","()V"⟩ prog_13_method_1_code 1 (Option.none : Option FieldType) : Cond) ∈ lw_tbl := List.mem_of_getElem? (i := 114) rfl
theorem k_115 : (.methodLink "java/lang/Throwable" 1 ⟨"java/lang/Object","<init>","()V"⟩ : Cond) ∈ lw_tbl := List.mem_of_getElem? (i := 115) rfl
theorem k_116 : (.fieldLink "java/lang/Throwable" 13 "java/lang/Throwable" "UNASSIGNED_STACK" "[Ljava/lang/StackTraceElement;" : Cond) ∈ lw_tbl := List.mem_of_getElem? (i := 116) rfl
theorem k_117 : (.laysStatic "java/lang/Throwable" "UNASSIGNED_STACK" "[Ljava/lang/StackTraceElement;" : Cond) ∈ lw_tbl := List.mem_of_getElem? (i := 117) rfl
theorem k_118 : (.fieldLink "java/lang/Throwable" 20 "java/lang/Throwable" "SUPPRESSED_SENTINEL" "Ljava/util/List;" : Cond) ∈ lw_tbl := List.mem_of_getElem? (i := 118) rfl
theorem k_119 : (.laysStatic "java/lang/Throwable" "SUPPRESSED_SENTINEL" "Ljava/util/List;" : Cond) ∈ lw_tbl := List.mem_of_getElem? (i := 119) rfl
theorem k_120 : (.methodLink "java/lang/Throwable" 27 ⟨"java/lang/Throwable","fillInStackTrace","()Ljava/lang/Throwable;"⟩ : Cond) ∈ lw_tbl := List.mem_of_getElem? (i := 120) rfl
theorem k_121 : (.instanceMethod ⟨"java/lang/Throwable","fillInStackTrace","()Ljava/lang/Throwable;"⟩ : Cond) ∈ lw_tbl := List.mem_of_getElem? (i := 121) rfl
theorem k_122 : (.sameMethod "java/lang/Throwable" "java/lang/Throwable" "fillInStackTrace" "()Ljava/lang/Throwable;" : Cond) ∈ lw_tbl := List.mem_of_getElem? (i := 122) rfl
theorem k_123 : (.selects "java/lang/IllegalStateException" ⟨"java/lang/Throwable","fillInStackTrace","()Ljava/lang/Throwable;"⟩ ⟨"java/lang/Throwable","fillInStackTrace","()Ljava/lang/Throwable;"⟩ : Cond) ∈ lw_tbl := List.mem_of_getElem? (i := 123) rfl
theorem k_124 : (.selects "java/lang/UnsupportedOperationException" ⟨"java/lang/Throwable","fillInStackTrace","()Ljava/lang/Throwable;"⟩ ⟨"java/lang/Throwable","fillInStackTrace","()Ljava/lang/Throwable;"⟩ : Cond) ∈ lw_tbl := List.mem_of_getElem? (i := 124) rfl
theorem k_125 : (.selects "java/util/NoSuchElementException" ⟨"java/lang/Throwable","fillInStackTrace","()Ljava/lang/Throwable;"⟩ ⟨"java/lang/Throwable","fillInStackTrace","()Ljava/lang/Throwable;"⟩ : Cond) ∈ lw_tbl := List.mem_of_getElem? (i := 125) rfl
theorem k_126 : (.codeSync ⟨"java/lang/Throwable","fillInStackTrace","()Ljava/lang/Throwable;"⟩ prog_13_method_18_code 1 (Option.some (FieldType.object "java/lang/Throwable")) : Cond) ∈ lw_tbl := List.mem_of_getElem? (i := 126) rfl
theorem k_127 : (.methodLink "java/lang/Throwable" 202 ⟨"java/lang/Throwable","fillInStackTrace","(I)Ljava/lang/Throwable;"⟩ : Cond) ∈ lw_tbl := List.mem_of_getElem? (i := 127) rfl
theorem k_128 : (.privateMethod ⟨"java/lang/Throwable","fillInStackTrace","(I)Ljava/lang/Throwable;"⟩ : Cond) ∈ lw_tbl := List.mem_of_getElem? (i := 128) rfl
theorem k_129 : (.instanceMethod ⟨"java/lang/Throwable","fillInStackTrace","(I)Ljava/lang/Throwable;"⟩ : Cond) ∈ lw_tbl := List.mem_of_getElem? (i := 129) rfl
theorem k_130 : (.instantiable "java/lang/Throwable" 6 : Cond) ∈ lw_tbl := List.mem_of_getElem? (i := 130) rfl
theorem k_131 : (.native ⟨"java/lang/Throwable","fillInStackTrace","(I)Ljava/lang/Throwable;"⟩ : Cond) ∈ lw_tbl := List.mem_of_getElem? (i := 131) rfl
theorem k_132 : (.stringRef "ReturnRows" 199 "a number is outside its range" : Cond) ∈ lw_tbl := List.mem_of_getElem? (i := 132) rfl
theorem k_133 : (.methodLink "ReturnRows" 175 ⟨"java/lang/IllegalArgumentException","<init>","(Ljava/lang/String;)V"⟩ : Cond) ∈ lw_tbl := List.mem_of_getElem? (i := 133) rfl
theorem k_134 : (.instanceMethod ⟨"java/lang/IllegalArgumentException","<init>","(Ljava/lang/String;)V"⟩ : Cond) ∈ lw_tbl := List.mem_of_getElem? (i := 134) rfl
theorem k_135 : (.code ⟨"java/lang/IllegalArgumentException","<init>","(Ljava/lang/String;)V"⟩ prog_7_method_2_code 2 (Option.none : Option FieldType) : Cond) ∈ lw_tbl := List.mem_of_getElem? (i := 135) rfl
theorem k_136 : (.methodLink "java/lang/IllegalArgumentException" 7 ⟨"java/lang/RuntimeException","<init>","(Ljava/lang/String;)V"⟩ : Cond) ∈ lw_tbl := List.mem_of_getElem? (i := 136) rfl
theorem k_137 : (.instanceMethod ⟨"java/lang/RuntimeException","<init>","(Ljava/lang/String;)V"⟩ : Cond) ∈ lw_tbl := List.mem_of_getElem? (i := 137) rfl
theorem k_138 : (.code ⟨"java/lang/RuntimeException","<init>","(Ljava/lang/String;)V"⟩ prog_11_method_2_code 2 (Option.none : Option FieldType) : Cond) ∈ lw_tbl := List.mem_of_getElem? (i := 138) rfl
theorem k_139 : (.methodLink "java/lang/RuntimeException" 7 ⟨"java/lang/Exception","<init>","(Ljava/lang/String;)V"⟩ : Cond) ∈ lw_tbl := List.mem_of_getElem? (i := 139) rfl
theorem k_140 : (.instanceMethod ⟨"java/lang/Exception","<init>","(Ljava/lang/String;)V"⟩ : Cond) ∈ lw_tbl := List.mem_of_getElem? (i := 140) rfl
theorem k_141 : (.code ⟨"java/lang/Exception","<init>","(Ljava/lang/String;)V"⟩ prog_6_method_2_code 2 (Option.none : Option FieldType) : Cond) ∈ lw_tbl := List.mem_of_getElem? (i := 141) rfl
theorem k_142 : (.methodLink "java/lang/Exception" 7 ⟨"java/lang/Throwable","<init>","(Ljava/lang/String;)V"⟩ : Cond) ∈ lw_tbl := List.mem_of_getElem? (i := 142) rfl
theorem k_143 : (.instanceMethod ⟨"java/lang/Throwable","<init>","(Ljava/lang/String;)V"⟩ : Cond) ∈ lw_tbl := List.mem_of_getElem? (i := 143) rfl
theorem k_144 : (.code ⟨"java/lang/Throwable","<init>","(Ljava/lang/String;)V"⟩ prog_13_method_2_code 2 (Option.none : Option FieldType) : Cond) ∈ lw_tbl := List.mem_of_getElem? (i := 144) rfl
theorem k_146 : (.fieldLink "java/lang/Throwable" 31 "java/lang/Throwable" "detailMessage" "Ljava/lang/String;" : Cond) ∈ lw_tbl := List.mem_of_getElem? (i := 146) rfl
theorem k_147 : (.fieldLink "java/lang/Throwable" 7 "java/lang/Throwable" "cause" "Ljava/lang/Throwable;" : Cond) ∈ lw_tbl := List.mem_of_getElem? (i := 147) rfl
theorem k_148 : (.fieldLink "java/lang/Throwable" 17 "java/lang/Throwable" "stackTrace" "[Ljava/lang/StackTraceElement;" : Cond) ∈ lw_tbl := List.mem_of_getElem? (i := 148) rfl
theorem k_149 : (.fieldLink "java/lang/Throwable" 24 "java/lang/Throwable" "suppressedExceptions" "Ljava/util/List;" : Cond) ∈ lw_tbl := List.mem_of_getElem? (i := 149) rfl
theorem k_150 : (.soleField "java/lang/Throwable" "backtrace" : Cond) ∈ lw_tbl := List.mem_of_getElem? (i := 150) rfl
theorem k_151 : (.soleField "java/lang/Throwable" "detailMessage" : Cond) ∈ lw_tbl := List.mem_of_getElem? (i := 151) rfl
theorem k_152 : (.soleField "java/lang/Throwable" "cause" : Cond) ∈ lw_tbl := List.mem_of_getElem? (i := 152) rfl
theorem k_153 : (.soleField "java/lang/Throwable" "stackTrace" : Cond) ∈ lw_tbl := List.mem_of_getElem? (i := 153) rfl
theorem k_154 : (.lays "java/lang/IllegalArgumentException" "java/lang/Throwable" "depth" "I" : Cond) ∈ lw_tbl := List.mem_of_getElem? (i := 154) rfl
theorem k_155 : (.soleField "java/lang/Throwable" "depth" : Cond) ∈ lw_tbl := List.mem_of_getElem? (i := 155) rfl
theorem k_156 : (.soleField "java/lang/Throwable" "suppressedExceptions" : Cond) ∈ lw_tbl := List.mem_of_getElem? (i := 156) rfl
theorem k_157 : (.superclass "java/lang/IllegalArgumentException" "java/lang/RuntimeException" : Cond) ∈ lw_tbl := List.mem_of_getElem? (i := 157) rfl
theorem k_158 : (.arrayClass FieldType.byte : Cond) ∈ lw_tbl := List.mem_of_getElem? (i := 158) rfl
theorem k_159 : (.methodLink "ReturnRowsLaw" 94 ⟨"ReturnRowsLaw","sale","(LReturnRows;III[J)I"⟩ : Cond) ∈ lw_tbl := List.mem_of_getElem? (i := 159) rfl
theorem k_160 : (.static ⟨"ReturnRowsLaw","sale","(LReturnRows;III[J)I"⟩ : Cond) ∈ lw_tbl := List.mem_of_getElem? (i := 160) rfl
theorem k_161 : (.codeWith ⟨"ReturnRowsLaw","sale","(LReturnRows;III[J)I"⟩ method_4_code 6 (Option.some FieldType.int) [(0, 12, 15, 13), (0, 12, 19, 19)] : Cond) ∈ lw_tbl := List.mem_of_getElem? (i := 161) rfl
theorem k_162 : (.classLink "ReturnRowsLaw" 19 "java/lang/UnsupportedOperationException" : Cond) ∈ lw_tbl := List.mem_of_getElem? (i := 162) rfl
theorem k_163 : (.methodLink "ReturnRowsLaw" 15 ⟨"ReturnRows","sale","(III)I"⟩ : Cond) ∈ lw_tbl := List.mem_of_getElem? (i := 163) rfl
theorem k_164 : (.instanceMethod ⟨"ReturnRows","sale","(III)I"⟩ : Cond) ∈ lw_tbl := List.mem_of_getElem? (i := 164) rfl
theorem k_165 : (.selects "ReturnRows" ⟨"ReturnRows","sale","(III)I"⟩ ⟨"ReturnRows","sale","(III)I"⟩ : Cond) ∈ lw_tbl := List.mem_of_getElem? (i := 165) rfl
theorem k_166 : (.code ⟨"ReturnRows","sale","(III)I"⟩ prog_1_method_3_code 5 (Option.some FieldType.int) : Cond) ∈ lw_tbl := List.mem_of_getElem? (i := 166) rfl
theorem k_167 : (.constant "ReturnRows" 29 100000 : Cond) ∈ lw_tbl := List.mem_of_getElem? (i := 167) rfl
theorem k_168 : (.classLink "ReturnRows" 33 "java/lang/UnsupportedOperationException" : Cond) ∈ lw_tbl := List.mem_of_getElem? (i := 168) rfl
theorem k_169 : (.instantiable "java/lang/UnsupportedOperationException" 6 : Cond) ∈ lw_tbl := List.mem_of_getElem? (i := 169) rfl
theorem k_170 : (.castable "java/lang/UnsupportedOperationException" "java/lang/UnsupportedOperationException" : Cond) ∈ lw_tbl := List.mem_of_getElem? (i := 170) rfl
theorem k_171 : (.selects "java/lang/UnsupportedOperationException" ⟨"java/lang/Throwable","fillInStackTrace","(I)Ljava/lang/Throwable;"⟩ ⟨"java/lang/Throwable","fillInStackTrace","(I)Ljava/lang/Throwable;"⟩ : Cond) ∈ lw_tbl := List.mem_of_getElem? (i := 171) rfl
theorem k_172 : (.lays "java/lang/UnsupportedOperationException" "java/lang/Throwable" "cause" "Ljava/lang/Throwable;" : Cond) ∈ lw_tbl := List.mem_of_getElem? (i := 172) rfl
theorem k_173 : (.lays "java/lang/UnsupportedOperationException" "java/lang/Throwable" "stackTrace" "[Ljava/lang/StackTraceElement;" : Cond) ∈ lw_tbl := List.mem_of_getElem? (i := 173) rfl
theorem k_174 : (.lays "java/lang/UnsupportedOperationException" "java/lang/Throwable" "suppressedExceptions" "Ljava/util/List;" : Cond) ∈ lw_tbl := List.mem_of_getElem? (i := 174) rfl
theorem k_175 : (.lays "java/lang/UnsupportedOperationException" "java/lang/Throwable" "detailMessage" "Ljava/lang/String;" : Cond) ∈ lw_tbl := List.mem_of_getElem? (i := 175) rfl
theorem k_176 : (.lays "java/lang/UnsupportedOperationException" "java/lang/Throwable" "backtrace" "Ljava/lang/Object;" : Cond) ∈ lw_tbl := List.mem_of_getElem? (i := 176) rfl
theorem k_177 : (.stringRef "ReturnRows" 35 "no room for another sale" : Cond) ∈ lw_tbl := List.mem_of_getElem? (i := 177) rfl
theorem k_178 : (.methodLink "ReturnRows" 37 ⟨"java/lang/UnsupportedOperationException","<init>","(Ljava/lang/String;)V"⟩ : Cond) ∈ lw_tbl := List.mem_of_getElem? (i := 178) rfl
theorem k_179 : (.instanceMethod ⟨"java/lang/UnsupportedOperationException","<init>","(Ljava/lang/String;)V"⟩ : Cond) ∈ lw_tbl := List.mem_of_getElem? (i := 179) rfl
theorem k_180 : (.code ⟨"java/lang/UnsupportedOperationException","<init>","(Ljava/lang/String;)V"⟩ prog_14_method_2_code 2 (Option.none : Option FieldType) : Cond) ∈ lw_tbl := List.mem_of_getElem? (i := 180) rfl
theorem k_181 : (.methodLink "java/lang/UnsupportedOperationException" 7 ⟨"java/lang/RuntimeException","<init>","(Ljava/lang/String;)V"⟩ : Cond) ∈ lw_tbl := List.mem_of_getElem? (i := 181) rfl
theorem k_182 : (.lays "java/lang/UnsupportedOperationException" "java/lang/Throwable" "depth" "I" : Cond) ∈ lw_tbl := List.mem_of_getElem? (i := 182) rfl
theorem k_183 : (.superclass "java/lang/UnsupportedOperationException" "java/lang/RuntimeException" : Cond) ∈ lw_tbl := List.mem_of_getElem? (i := 183) rfl
theorem k_184 : (.instantiable "ReturnRows$Sale" 6 : Cond) ∈ lw_tbl := List.mem_of_getElem? (i := 184) rfl
theorem k_185 : (.methodLink "ReturnRows" 40 ⟨"ReturnRows$Sale","<init>","(IIIII)V"⟩ : Cond) ∈ lw_tbl := List.mem_of_getElem? (i := 185) rfl
theorem k_186 : (.instanceMethod ⟨"ReturnRows$Sale","<init>","(IIIII)V"⟩ : Cond) ∈ lw_tbl := List.mem_of_getElem? (i := 186) rfl
theorem k_187 : (.code ⟨"ReturnRows$Sale","<init>","(IIIII)V"⟩ prog_3_method_1_code 6 (Option.none : Option FieldType) : Cond) ∈ lw_tbl := List.mem_of_getElem? (i := 187) rfl
theorem k_188 : (.methodLink "ReturnRows$Sale" 1 ⟨"java/lang/Object","<init>","()V"⟩ : Cond) ∈ lw_tbl := List.mem_of_getElem? (i := 188) rfl
theorem k_189 : (.fieldLink "ReturnRows$Sale" 7 "ReturnRows$Sale" "number" "I" : Cond) ∈ lw_tbl := List.mem_of_getElem? (i := 189) rfl
theorem k_190 : (.fieldLink "ReturnRows" 82 "ReturnRows$Sale" "number" "I" : Cond) ∈ lw_tbl := List.mem_of_getElem? (i := 190) rfl
theorem k_191 : (.fieldLink "ReturnRows$Sale" 13 "ReturnRows$Sale" "buyer" "I" : Cond) ∈ lw_tbl := List.mem_of_getElem? (i := 191) rfl
theorem k_192 : (.fieldLink "ReturnRows$Return" 37 "ReturnRows$Sale" "buyer" "I" : Cond) ∈ lw_tbl := List.mem_of_getElem? (i := 192) rfl
theorem k_193 : (.fieldLink "ReturnRows" 209 "ReturnRows$Sale" "buyer" "I" : Cond) ∈ lw_tbl := List.mem_of_getElem? (i := 193) rfl
theorem k_194 : (.fieldLink "ReturnRows$Sale" 16 "ReturnRows$Sale" "price" "I" : Cond) ∈ lw_tbl := List.mem_of_getElem? (i := 194) rfl
theorem k_195 : (.fieldLink "ReturnRows$Return" 59 "ReturnRows$Sale" "price" "I" : Cond) ∈ lw_tbl := List.mem_of_getElem? (i := 195) rfl
theorem k_196 : (.fieldLink "ReturnRows$Sale" 19 "ReturnRows$Sale" "lastDay" "I" : Cond) ∈ lw_tbl := List.mem_of_getElem? (i := 196) rfl
theorem k_197 : (.fieldLink "ReturnRows" 147 "ReturnRows$Sale" "lastDay" "I" : Cond) ∈ lw_tbl := List.mem_of_getElem? (i := 197) rfl
theorem k_198 : (.fieldLink "ReturnRows$Sale" 22 "ReturnRows$Sale" "soldDay" "I" : Cond) ∈ lw_tbl := List.mem_of_getElem? (i := 198) rfl
theorem k_199 : (.fieldLink "ReturnRows$Return" 56 "ReturnRows$Sale" "soldDay" "I" : Cond) ∈ lw_tbl := List.mem_of_getElem? (i := 199) rfl
theorem k_200 : (.fieldLink "ReturnRows" 47 "ReturnRows$Sale" "hasReturn" "Z" : Cond) ∈ lw_tbl := List.mem_of_getElem? (i := 200) rfl
theorem k_201 : (.laysFinal "ReturnRows$Sale" "ReturnRows$Sale" "number" "I" : Cond) ∈ lw_tbl := List.mem_of_getElem? (i := 201) rfl
theorem k_202 : (.soleField "ReturnRows$Sale" "number" : Cond) ∈ lw_tbl := List.mem_of_getElem? (i := 202) rfl
theorem k_203 : (.laysFinal "ReturnRows$Sale" "ReturnRows$Sale" "buyer" "I" : Cond) ∈ lw_tbl := List.mem_of_getElem? (i := 203) rfl
theorem k_204 : (.soleField "ReturnRows$Sale" "buyer" : Cond) ∈ lw_tbl := List.mem_of_getElem? (i := 204) rfl
theorem k_205 : (.laysFinal "ReturnRows$Sale" "ReturnRows$Sale" "price" "I" : Cond) ∈ lw_tbl := List.mem_of_getElem? (i := 205) rfl
theorem k_206 : (.soleField "ReturnRows$Sale" "price" : Cond) ∈ lw_tbl := List.mem_of_getElem? (i := 206) rfl
theorem k_207 : (.laysFinal "ReturnRows$Sale" "ReturnRows$Sale" "lastDay" "I" : Cond) ∈ lw_tbl := List.mem_of_getElem? (i := 207) rfl
theorem k_208 : (.soleField "ReturnRows$Sale" "lastDay" : Cond) ∈ lw_tbl := List.mem_of_getElem? (i := 208) rfl
theorem k_209 : (.laysFinal "ReturnRows$Sale" "ReturnRows$Sale" "soldDay" "I" : Cond) ∈ lw_tbl := List.mem_of_getElem? (i := 209) rfl
theorem k_210 : (.soleField "ReturnRows$Sale" "soldDay" : Cond) ∈ lw_tbl := List.mem_of_getElem? (i := 210) rfl
theorem k_211 : (.lays "ReturnRows$Sale" "ReturnRows$Sale" "hasReturn" "Z" : Cond) ∈ lw_tbl := List.mem_of_getElem? (i := 211) rfl
theorem k_212 : (.soleField "ReturnRows$Sale" "hasReturn" : Cond) ∈ lw_tbl := List.mem_of_getElem? (i := 212) rfl
theorem k_213 : (.superclass "ReturnRows$Sale" "java/lang/Object" : Cond) ∈ lw_tbl := List.mem_of_getElem? (i := 213) rfl
theorem k_214 : (.methodLink "ReturnRowsLaw" 98 ⟨"ReturnRowsLaw","comes","(LReturnRows;IIZ[J)I"⟩ : Cond) ∈ lw_tbl := List.mem_of_getElem? (i := 214) rfl
theorem k_215 : (.static ⟨"ReturnRowsLaw","comes","(LReturnRows;IIZ[J)I"⟩ : Cond) ∈ lw_tbl := List.mem_of_getElem? (i := 215) rfl
theorem k_216 : (.codeWith ⟨"ReturnRowsLaw","comes","(LReturnRows;IIZ[J)I"⟩ method_5_code 6 (Option.some FieldType.int) [(0, 12, 15, 25), (0, 12, 19, 13), (0, 12, 23, 27), (0, 12, 27, 19)] : Cond) ∈ lw_tbl := List.mem_of_getElem? (i := 216) rfl
theorem k_217 : (.classLink "ReturnRowsLaw" 25 "java/util/NoSuchElementException" : Cond) ∈ lw_tbl := List.mem_of_getElem? (i := 217) rfl
theorem k_218 : (.classLink "ReturnRowsLaw" 27 "java/lang/IllegalStateException" : Cond) ∈ lw_tbl := List.mem_of_getElem? (i := 218) rfl
theorem k_219 : (.methodLink "ReturnRowsLaw" 21 ⟨"ReturnRows","comes","(IIZ)I"⟩ : Cond) ∈ lw_tbl := List.mem_of_getElem? (i := 219) rfl
theorem k_220 : (.instanceMethod ⟨"ReturnRows","comes","(IIZ)I"⟩ : Cond) ∈ lw_tbl := List.mem_of_getElem? (i := 220) rfl
theorem k_221 : (.selects "ReturnRows" ⟨"ReturnRows","comes","(IIZ)I"⟩ ⟨"ReturnRows","comes","(IIZ)I"⟩ : Cond) ∈ lw_tbl := List.mem_of_getElem? (i := 221) rfl
theorem k_222 : (.code ⟨"ReturnRows","comes","(IIZ)I"⟩ prog_1_method_4_code 5 (Option.some FieldType.int) : Cond) ∈ lw_tbl := List.mem_of_getElem? (i := 222) rfl
theorem k_223 : (.methodLink "ReturnRows" 43 ⟨"ReturnRows","saleAt","(I)LReturnRows$Sale;"⟩ : Cond) ∈ lw_tbl := List.mem_of_getElem? (i := 223) rfl
theorem k_224 : (.privateMethod ⟨"ReturnRows","saleAt","(I)LReturnRows$Sale;"⟩ : Cond) ∈ lw_tbl := List.mem_of_getElem? (i := 224) rfl
theorem k_225 : (.instanceMethod ⟨"ReturnRows","saleAt","(I)LReturnRows$Sale;"⟩ : Cond) ∈ lw_tbl := List.mem_of_getElem? (i := 225) rfl
theorem k_226 : (.code ⟨"ReturnRows","saleAt","(I)LReturnRows$Sale;"⟩ prog_1_method_21_code 3 (Option.some (FieldType.object "ReturnRows$Sale")) : Cond) ∈ lw_tbl := List.mem_of_getElem? (i := 226) rfl
theorem k_227 : (.classLink "ReturnRows" 192 "java/util/NoSuchElementException" : Cond) ∈ lw_tbl := List.mem_of_getElem? (i := 227) rfl
theorem k_228 : (.instantiable "java/util/NoSuchElementException" 6 : Cond) ∈ lw_tbl := List.mem_of_getElem? (i := 228) rfl
theorem k_229 : (.castable "java/util/NoSuchElementException" "java/util/NoSuchElementException" : Cond) ∈ lw_tbl := List.mem_of_getElem? (i := 229) rfl
theorem k_230 : (.selects "java/util/NoSuchElementException" ⟨"java/lang/Throwable","fillInStackTrace","(I)Ljava/lang/Throwable;"⟩ ⟨"java/lang/Throwable","fillInStackTrace","(I)Ljava/lang/Throwable;"⟩ : Cond) ∈ lw_tbl := List.mem_of_getElem? (i := 230) rfl
theorem k_231 : (.lays "java/util/NoSuchElementException" "java/lang/Throwable" "cause" "Ljava/lang/Throwable;" : Cond) ∈ lw_tbl := List.mem_of_getElem? (i := 231) rfl
theorem k_232 : (.lays "java/util/NoSuchElementException" "java/lang/Throwable" "stackTrace" "[Ljava/lang/StackTraceElement;" : Cond) ∈ lw_tbl := List.mem_of_getElem? (i := 232) rfl
theorem k_233 : (.lays "java/util/NoSuchElementException" "java/lang/Throwable" "suppressedExceptions" "Ljava/util/List;" : Cond) ∈ lw_tbl := List.mem_of_getElem? (i := 233) rfl
theorem k_234 : (.lays "java/util/NoSuchElementException" "java/lang/Throwable" "detailMessage" "Ljava/lang/String;" : Cond) ∈ lw_tbl := List.mem_of_getElem? (i := 234) rfl
theorem k_235 : (.lays "java/util/NoSuchElementException" "java/lang/Throwable" "backtrace" "Ljava/lang/Object;" : Cond) ∈ lw_tbl := List.mem_of_getElem? (i := 235) rfl
theorem k_236 : (.stringRef "ReturnRows" 194 "there is no such sale" : Cond) ∈ lw_tbl := List.mem_of_getElem? (i := 236) rfl
theorem k_237 : (.methodLink "ReturnRows" 196 ⟨"java/util/NoSuchElementException","<init>","(Ljava/lang/String;)V"⟩ : Cond) ∈ lw_tbl := List.mem_of_getElem? (i := 237) rfl
theorem k_238 : (.instanceMethod ⟨"java/util/NoSuchElementException","<init>","(Ljava/lang/String;)V"⟩ : Cond) ∈ lw_tbl := List.mem_of_getElem? (i := 238) rfl
theorem k_239 : (.code ⟨"java/util/NoSuchElementException","<init>","(Ljava/lang/String;)V"⟩ prog_15_method_4_code 2 (Option.none : Option FieldType) : Cond) ∈ lw_tbl := List.mem_of_getElem? (i := 239) rfl
theorem k_240 : (.methodLink "java/util/NoSuchElementException" 13 ⟨"java/lang/RuntimeException","<init>","(Ljava/lang/String;)V"⟩ : Cond) ∈ lw_tbl := List.mem_of_getElem? (i := 240) rfl
theorem k_241 : (.lays "java/util/NoSuchElementException" "java/lang/Throwable" "depth" "I" : Cond) ∈ lw_tbl := List.mem_of_getElem? (i := 241) rfl
theorem k_242 : (.superclass "java/util/NoSuchElementException" "java/lang/RuntimeException" : Cond) ∈ lw_tbl := List.mem_of_getElem? (i := 242) rfl
theorem k_243 : (.classLink "ReturnRows" 51 "java/lang/IllegalStateException" : Cond) ∈ lw_tbl := List.mem_of_getElem? (i := 243) rfl
theorem k_244 : (.instantiable "java/lang/IllegalStateException" 6 : Cond) ∈ lw_tbl := List.mem_of_getElem? (i := 244) rfl
theorem k_245 : (.castable "java/lang/IllegalStateException" "java/lang/IllegalStateException" : Cond) ∈ lw_tbl := List.mem_of_getElem? (i := 245) rfl
theorem k_246 : (.selects "java/lang/IllegalStateException" ⟨"java/lang/Throwable","fillInStackTrace","(I)Ljava/lang/Throwable;"⟩ ⟨"java/lang/Throwable","fillInStackTrace","(I)Ljava/lang/Throwable;"⟩ : Cond) ∈ lw_tbl := List.mem_of_getElem? (i := 246) rfl
theorem k_247 : (.lays "java/lang/IllegalStateException" "java/lang/Throwable" "cause" "Ljava/lang/Throwable;" : Cond) ∈ lw_tbl := List.mem_of_getElem? (i := 247) rfl
theorem k_248 : (.lays "java/lang/IllegalStateException" "java/lang/Throwable" "stackTrace" "[Ljava/lang/StackTraceElement;" : Cond) ∈ lw_tbl := List.mem_of_getElem? (i := 248) rfl
theorem k_249 : (.lays "java/lang/IllegalStateException" "java/lang/Throwable" "suppressedExceptions" "Ljava/util/List;" : Cond) ∈ lw_tbl := List.mem_of_getElem? (i := 249) rfl
theorem k_250 : (.lays "java/lang/IllegalStateException" "java/lang/Throwable" "detailMessage" "Ljava/lang/String;" : Cond) ∈ lw_tbl := List.mem_of_getElem? (i := 250) rfl
theorem k_251 : (.lays "java/lang/IllegalStateException" "java/lang/Throwable" "backtrace" "Ljava/lang/Object;" : Cond) ∈ lw_tbl := List.mem_of_getElem? (i := 251) rfl
theorem k_252 : (.stringRef "ReturnRows" 53 "there is a return of this sale" : Cond) ∈ lw_tbl := List.mem_of_getElem? (i := 252) rfl
theorem k_253 : (.methodLink "ReturnRows" 55 ⟨"java/lang/IllegalStateException","<init>","(Ljava/lang/String;)V"⟩ : Cond) ∈ lw_tbl := List.mem_of_getElem? (i := 253) rfl
theorem k_254 : (.instanceMethod ⟨"java/lang/IllegalStateException","<init>","(Ljava/lang/String;)V"⟩ : Cond) ∈ lw_tbl := List.mem_of_getElem? (i := 254) rfl
theorem k_255 : (.code ⟨"java/lang/IllegalStateException","<init>","(Ljava/lang/String;)V"⟩ prog_8_method_2_code 2 (Option.none : Option FieldType) : Cond) ∈ lw_tbl := List.mem_of_getElem? (i := 255) rfl
theorem k_256 : (.methodLink "java/lang/IllegalStateException" 7 ⟨"java/lang/RuntimeException","<init>","(Ljava/lang/String;)V"⟩ : Cond) ∈ lw_tbl := List.mem_of_getElem? (i := 256) rfl
theorem k_257 : (.lays "java/lang/IllegalStateException" "java/lang/Throwable" "depth" "I" : Cond) ∈ lw_tbl := List.mem_of_getElem? (i := 257) rfl
theorem k_258 : (.superclass "java/lang/IllegalStateException" "java/lang/RuntimeException" : Cond) ∈ lw_tbl := List.mem_of_getElem? (i := 258) rfl
theorem k_259 : (.stringRef "ReturnRows" 59 "no room for another return" : Cond) ∈ lw_tbl := List.mem_of_getElem? (i := 259) rfl
theorem k_260 : (.instantiable "ReturnRows$Return" 15 : Cond) ∈ lw_tbl := List.mem_of_getElem? (i := 260) rfl
theorem k_261 : (.methodLink "ReturnRows" 61 ⟨"ReturnRows$Return","<init>","(LReturnRows$Sale;III)V"⟩ : Cond) ∈ lw_tbl := List.mem_of_getElem? (i := 261) rfl
theorem k_262 : (.instanceMethod ⟨"ReturnRows$Return","<init>","(LReturnRows$Sale;III)V"⟩ : Cond) ∈ lw_tbl := List.mem_of_getElem? (i := 262) rfl
theorem k_263 : (.code ⟨"ReturnRows$Return","<init>","(LReturnRows$Sale;III)V"⟩ prog_2_method_1_code 5 (Option.none : Option FieldType) : Cond) ∈ lw_tbl := List.mem_of_getElem? (i := 263) rfl
theorem k_264 : (.methodLink "ReturnRows$Return" 3 ⟨"java/lang/Object","<init>","()V"⟩ : Cond) ∈ lw_tbl := List.mem_of_getElem? (i := 264) rfl
theorem k_265 : (.fieldLink "ReturnRows$Return" 9 "ReturnRows$Return" "sold" "LReturnRows$Sale;" : Cond) ∈ lw_tbl := List.mem_of_getElem? (i := 265) rfl
theorem k_266 : (.fieldLink "ReturnRows" 85 "ReturnRows$Return" "sold" "LReturnRows$Sale;" : Cond) ∈ lw_tbl := List.mem_of_getElem? (i := 266) rfl
theorem k_267 : (.fieldLink "ReturnRows$Return" 15 "ReturnRows$Return" "cause" "I" : Cond) ∈ lw_tbl := List.mem_of_getElem? (i := 267) rfl
theorem k_268 : (.fieldLink "ReturnRows" 184 "ReturnRows$Return" "cause" "I" : Cond) ∈ lw_tbl := List.mem_of_getElem? (i := 268) rfl
theorem k_269 : (.fieldLink "ReturnRows$Return" 22 "ReturnRows$Return" "cameDay" "I" : Cond) ∈ lw_tbl := List.mem_of_getElem? (i := 269) rfl
theorem k_270 : (.fieldLink "ReturnRows" 212 "ReturnRows$Return" "cameDay" "I" : Cond) ∈ lw_tbl := List.mem_of_getElem? (i := 270) rfl
theorem k_271 : (.fieldLink "ReturnRows$Return" 19 "ReturnRows$Return" "state" "I" : Cond) ∈ lw_tbl := List.mem_of_getElem? (i := 271) rfl
theorem k_272 : (.fieldLink "ReturnRows" 68 "ReturnRows$Return" "state" "I" : Cond) ∈ lw_tbl := List.mem_of_getElem? (i := 272) rfl
theorem k_273 : (.fieldLink "ReturnRows$Return" 25 "ReturnRows$Return" "person" "I" : Cond) ∈ lw_tbl := List.mem_of_getElem? (i := 273) rfl
theorem k_274 : (.fieldLink "ReturnRows" 75 "ReturnRows$Return" "person" "I" : Cond) ∈ lw_tbl := List.mem_of_getElem? (i := 274) rfl
theorem k_275 : (.fieldLink "ReturnRows$Return" 49 "ReturnRows$Return" "quarantined" "Z" : Cond) ∈ lw_tbl := List.mem_of_getElem? (i := 275) rfl
theorem k_276 : (.fieldLink "ReturnRows" 92 "ReturnRows$Return" "quarantined" "Z" : Cond) ∈ lw_tbl := List.mem_of_getElem? (i := 276) rfl
theorem k_277 : (.fieldLink "ReturnRows$Return" 45 "ReturnRows$Return" "wrong" "Z" : Cond) ∈ lw_tbl := List.mem_of_getElem? (i := 277) rfl
theorem k_278 : (.fieldLink "ReturnRows" 89 "ReturnRows$Return" "wrong" "Z" : Cond) ∈ lw_tbl := List.mem_of_getElem? (i := 278) rfl
theorem k_279 : (.fieldLink "ReturnRows" 100 "ReturnRows$Return" "badChecks" "I" : Cond) ∈ lw_tbl := List.mem_of_getElem? (i := 279) rfl
theorem k_280 : (.fieldLink "ReturnRows$Return" 28 "ReturnRows$Return" "grade" "I" : Cond) ∈ lw_tbl := List.mem_of_getElem? (i := 280) rfl
theorem k_281 : (.fieldLink "ReturnRows" 124 "ReturnRows$Return" "grade" "I" : Cond) ∈ lw_tbl := List.mem_of_getElem? (i := 281) rfl
theorem k_282 : (.fieldLink "ReturnRows$Return" 31 "ReturnRows$Return" "gradeBefore" "I" : Cond) ∈ lw_tbl := List.mem_of_getElem? (i := 282) rfl
theorem k_283 : (.fieldLink "ReturnRows" 118 "ReturnRows$Return" "gradeBefore" "I" : Cond) ∈ lw_tbl := List.mem_of_getElem? (i := 283) rfl
theorem k_284 : (.fieldLink "ReturnRows$Return" 34 "ReturnRows$Return" "bestGrade" "I" : Cond) ∈ lw_tbl := List.mem_of_getElem? (i := 284) rfl
theorem k_285 : (.fieldLink "ReturnRows" 187 "ReturnRows$Return" "bestGrade" "I" : Cond) ∈ lw_tbl := List.mem_of_getElem? (i := 285) rfl
theorem k_286 : (.fieldLink "ReturnRows" 129 "ReturnRows$Return" "stepsLeft" "I" : Cond) ∈ lw_tbl := List.mem_of_getElem? (i := 286) rfl
theorem k_287 : (.fieldLink "ReturnRows$Return" 62 "ReturnRows$Return" "missingPieces" "I" : Cond) ∈ lw_tbl := List.mem_of_getElem? (i := 287) rfl
theorem k_288 : (.fieldLink "ReturnRows" 155 "ReturnRows$Return" "missingPieces" "I" : Cond) ∈ lw_tbl := List.mem_of_getElem? (i := 288) rfl
theorem k_289 : (.fieldLink "ReturnRows$Return" 42 "ReturnRows$Return" "paid" "I" : Cond) ∈ lw_tbl := List.mem_of_getElem? (i := 289) rfl
theorem k_290 : (.fieldLink "ReturnRows" 162 "ReturnRows$Return" "paid" "I" : Cond) ∈ lw_tbl := List.mem_of_getElem? (i := 290) rfl
theorem k_291 : (.fieldLink "ReturnRows" 140 "ReturnRows$Return" "certificate" "I" : Cond) ∈ lw_tbl := List.mem_of_getElem? (i := 291) rfl
theorem k_292 : (.laysFinal "ReturnRows$Return" "ReturnRows$Return" "sold" "LReturnRows$Sale;" : Cond) ∈ lw_tbl := List.mem_of_getElem? (i := 292) rfl
theorem k_293 : (.soleField "ReturnRows$Return" "sold" : Cond) ∈ lw_tbl := List.mem_of_getElem? (i := 293) rfl
theorem k_294 : (.laysFinal "ReturnRows$Return" "ReturnRows$Return" "cause" "I" : Cond) ∈ lw_tbl := List.mem_of_getElem? (i := 294) rfl
theorem k_295 : (.soleField "ReturnRows$Return" "cause" : Cond) ∈ lw_tbl := List.mem_of_getElem? (i := 295) rfl
theorem k_296 : (.laysFinal "ReturnRows$Return" "ReturnRows$Return" "cameDay" "I" : Cond) ∈ lw_tbl := List.mem_of_getElem? (i := 296) rfl
theorem k_297 : (.soleField "ReturnRows$Return" "cameDay" : Cond) ∈ lw_tbl := List.mem_of_getElem? (i := 297) rfl
theorem k_298 : (.lays "ReturnRows$Return" "ReturnRows$Return" "state" "I" : Cond) ∈ lw_tbl := List.mem_of_getElem? (i := 298) rfl
theorem k_299 : (.soleField "ReturnRows$Return" "state" : Cond) ∈ lw_tbl := List.mem_of_getElem? (i := 299) rfl
theorem k_300 : (.lays "ReturnRows$Return" "ReturnRows$Return" "person" "I" : Cond) ∈ lw_tbl := List.mem_of_getElem? (i := 300) rfl
theorem k_301 : (.soleField "ReturnRows$Return" "person" : Cond) ∈ lw_tbl := List.mem_of_getElem? (i := 301) rfl
theorem k_302 : (.lays "ReturnRows$Return" "ReturnRows$Return" "quarantined" "Z" : Cond) ∈ lw_tbl := List.mem_of_getElem? (i := 302) rfl
theorem k_303 : (.soleField "ReturnRows$Return" "quarantined" : Cond) ∈ lw_tbl := List.mem_of_getElem? (i := 303) rfl
theorem k_304 : (.lays "ReturnRows$Return" "ReturnRows$Return" "wrong" "Z" : Cond) ∈ lw_tbl := List.mem_of_getElem? (i := 304) rfl
theorem k_305 : (.soleField "ReturnRows$Return" "wrong" : Cond) ∈ lw_tbl := List.mem_of_getElem? (i := 305) rfl
theorem k_306 : (.lays "ReturnRows$Return" "ReturnRows$Return" "badChecks" "I" : Cond) ∈ lw_tbl := List.mem_of_getElem? (i := 306) rfl
theorem k_307 : (.soleField "ReturnRows$Return" "badChecks" : Cond) ∈ lw_tbl := List.mem_of_getElem? (i := 307) rfl
theorem k_308 : (.lays "ReturnRows$Return" "ReturnRows$Return" "grade" "I" : Cond) ∈ lw_tbl := List.mem_of_getElem? (i := 308) rfl
theorem k_309 : (.soleField "ReturnRows$Return" "grade" : Cond) ∈ lw_tbl := List.mem_of_getElem? (i := 309) rfl
theorem k_310 : (.lays "ReturnRows$Return" "ReturnRows$Return" "gradeBefore" "I" : Cond) ∈ lw_tbl := List.mem_of_getElem? (i := 310) rfl
theorem k_311 : (.soleField "ReturnRows$Return" "gradeBefore" : Cond) ∈ lw_tbl := List.mem_of_getElem? (i := 311) rfl
theorem k_312 : (.lays "ReturnRows$Return" "ReturnRows$Return" "bestGrade" "I" : Cond) ∈ lw_tbl := List.mem_of_getElem? (i := 312) rfl
theorem k_313 : (.soleField "ReturnRows$Return" "bestGrade" : Cond) ∈ lw_tbl := List.mem_of_getElem? (i := 313) rfl
theorem k_314 : (.lays "ReturnRows$Return" "ReturnRows$Return" "stepsLeft" "I" : Cond) ∈ lw_tbl := List.mem_of_getElem? (i := 314) rfl
theorem k_315 : (.soleField "ReturnRows$Return" "stepsLeft" : Cond) ∈ lw_tbl := List.mem_of_getElem? (i := 315) rfl
theorem k_316 : (.lays "ReturnRows$Return" "ReturnRows$Return" "missingPieces" "I" : Cond) ∈ lw_tbl := List.mem_of_getElem? (i := 316) rfl
theorem k_317 : (.soleField "ReturnRows$Return" "missingPieces" : Cond) ∈ lw_tbl := List.mem_of_getElem? (i := 317) rfl
theorem k_318 : (.lays "ReturnRows$Return" "ReturnRows$Return" "paid" "I" : Cond) ∈ lw_tbl := List.mem_of_getElem? (i := 318) rfl
theorem k_319 : (.soleField "ReturnRows$Return" "paid" : Cond) ∈ lw_tbl := List.mem_of_getElem? (i := 319) rfl
theorem k_320 : (.lays "ReturnRows$Return" "ReturnRows$Return" "certificate" "I" : Cond) ∈ lw_tbl := List.mem_of_getElem? (i := 320) rfl
theorem k_321 : (.soleField "ReturnRows$Return" "certificate" : Cond) ∈ lw_tbl := List.mem_of_getElem? (i := 321) rfl
theorem k_322 : (.superclass "ReturnRows$Return" "java/lang/Object" : Cond) ∈ lw_tbl := List.mem_of_getElem? (i := 322) rfl
theorem k_323 : (.methodLink "ReturnRowsLaw" 102 ⟨"ReturnRowsLaw","arrive","(LReturnRows;II)I"⟩ : Cond) ∈ lw_tbl := List.mem_of_getElem? (i := 323) rfl
theorem k_324 : (.static ⟨"ReturnRowsLaw","arrive","(LReturnRows;II)I"⟩ : Cond) ∈ lw_tbl := List.mem_of_getElem? (i := 324) rfl
theorem k_325 : (.codeWith ⟨"ReturnRowsLaw","arrive","(LReturnRows;II)I"⟩ method_6_code 4 (Option.some FieldType.int) [(0, 6, 9, 25), (0, 6, 12, 13), (0, 6, 15, 27)] : Cond) ∈ lw_tbl := List.mem_of_getElem? (i := 325) rfl
theorem k_326 : (.methodLink "ReturnRowsLaw" 29 ⟨"ReturnRows","arrive","(II)V"⟩ : Cond) ∈ lw_tbl := List.mem_of_getElem? (i := 326) rfl
theorem k_327 : (.instanceMethod ⟨"ReturnRows","arrive","(II)V"⟩ : Cond) ∈ lw_tbl := List.mem_of_getElem? (i := 327) rfl
theorem k_328 : (.selects "ReturnRows" ⟨"ReturnRows","arrive","(II)V"⟩ ⟨"ReturnRows","arrive","(II)V"⟩ : Cond) ∈ lw_tbl := List.mem_of_getElem? (i := 328) rfl
theorem k_329 : (.code ⟨"ReturnRows","arrive","(II)V"⟩ prog_1_method_5_code 5 (Option.none : Option FieldType) : Cond) ∈ lw_tbl := List.mem_of_getElem? (i := 329) rfl
theorem k_330 : (.methodLink "ReturnRows" 64 ⟨"ReturnRows","returnAt","(I)LReturnRows$Return;"⟩ : Cond) ∈ lw_tbl := List.mem_of_getElem? (i := 330) rfl
theorem k_331 : (.privateMethod ⟨"ReturnRows","returnAt","(I)LReturnRows$Return;"⟩ : Cond) ∈ lw_tbl := List.mem_of_getElem? (i := 331) rfl
theorem k_332 : (.instanceMethod ⟨"ReturnRows","returnAt","(I)LReturnRows$Return;"⟩ : Cond) ∈ lw_tbl := List.mem_of_getElem? (i := 332) rfl
theorem k_333 : (.code ⟨"ReturnRows","returnAt","(I)LReturnRows$Return;"⟩ prog_1_method_22_code 3 (Option.some (FieldType.object "ReturnRows$Return")) : Cond) ∈ lw_tbl := List.mem_of_getElem? (i := 333) rfl
theorem k_334 : (.stringRef "ReturnRows" 197 "there is no such return" : Cond) ∈ lw_tbl := List.mem_of_getElem? (i := 334) rfl
theorem k_335 : (.stringRef "ReturnRows" 71 "the return is neither announced nor waiting" : Cond) ∈ lw_tbl := List.mem_of_getElem? (i := 335) rfl
theorem k_336 : (.stringRef "ReturnRows" 73 "a person lets in a waiting return, none an announced one" : Cond) ∈ lw_tbl := List.mem_of_getElem? (i := 336) rfl
theorem k_337 : (.methodLink "ReturnRowsLaw" 106 ⟨"ReturnRowsLaw","serial","(LReturnRows;II[J)I"⟩ : Cond) ∈ lw_tbl := List.mem_of_getElem? (i := 337) rfl
theorem k_338 : (.static ⟨"ReturnRowsLaw","serial","(LReturnRows;II[J)I"⟩ : Cond) ∈ lw_tbl := List.mem_of_getElem? (i := 338) rfl
theorem k_339 : (.codeWith ⟨"ReturnRowsLaw","serial","(LReturnRows;II[J)I"⟩ method_7_code 5 (Option.some FieldType.int) [(0, 10, 13, 25), (0, 10, 17, 27)] : Cond) ∈ lw_tbl := List.mem_of_getElem? (i := 339) rfl
theorem k_340 : (.methodLink "ReturnRowsLaw" 33 ⟨"ReturnRows","serial","(II)I"⟩ : Cond) ∈ lw_tbl := List.mem_of_getElem? (i := 340) rfl
theorem k_341 : (.instanceMethod ⟨"ReturnRows","serial","(II)I"⟩ : Cond) ∈ lw_tbl := List.mem_of_getElem? (i := 341) rfl
theorem k_342 : (.selects "ReturnRows" ⟨"ReturnRows","serial","(II)I"⟩ ⟨"ReturnRows","serial","(II)I"⟩ : Cond) ∈ lw_tbl := List.mem_of_getElem? (i := 342) rfl
theorem k_343 : (.code ⟨"ReturnRows","serial","(II)I"⟩ prog_1_method_6_code 5 (Option.some FieldType.int) : Cond) ∈ lw_tbl := List.mem_of_getElem? (i := 343) rfl
theorem k_344 : (.methodLink "ReturnRows" 78 ⟨"ReturnRows","requireHere","(LReturnRows$Return;)V"⟩ : Cond) ∈ lw_tbl := List.mem_of_getElem? (i := 344) rfl
theorem k_345 : (.static ⟨"ReturnRows","requireHere","(LReturnRows$Return;)V"⟩ : Cond) ∈ lw_tbl := List.mem_of_getElem? (i := 345) rfl
theorem k_346 : (.code ⟨"ReturnRows","requireHere","(LReturnRows$Return;)V"⟩ prog_1_method_24_code 1 (Option.none : Option FieldType) : Cond) ∈ lw_tbl := List.mem_of_getElem? (i := 346) rfl
theorem k_347 : (.stringRef "ReturnRows" 201 "the return is not here" : Cond) ∈ lw_tbl := List.mem_of_getElem? (i := 347) rfl
theorem k_348 : (.methodLink "ReturnRowsLaw" 110 ⟨"ReturnRowsLaw","quarantine","(LReturnRows;IZ)I"⟩ : Cond) ∈ lw_tbl := List.mem_of_getElem? (i := 348) rfl
theorem k_349 : (.static ⟨"ReturnRowsLaw","quarantine","(LReturnRows;IZ)I"⟩ : Cond) ∈ lw_tbl := List.mem_of_getElem? (i := 349) rfl
theorem k_350 : (.codeWith ⟨"ReturnRowsLaw","quarantine","(LReturnRows;IZ)I"⟩ method_8_code 4 (Option.some FieldType.int) [(0, 6, 9, 25), (0, 6, 12, 27)] : Cond) ∈ lw_tbl := List.mem_of_getElem? (i := 350) rfl
theorem k_351 : (.methodLink "ReturnRowsLaw" 37 ⟨"ReturnRows","quarantine","(IZ)V"⟩ : Cond) ∈ lw_tbl := List.mem_of_getElem? (i := 351) rfl
theorem k_352 : (.instanceMethod ⟨"ReturnRows","quarantine","(IZ)V"⟩ : Cond) ∈ lw_tbl := List.mem_of_getElem? (i := 352) rfl
theorem k_353 : (.selects "ReturnRows" ⟨"ReturnRows","quarantine","(IZ)V"⟩ ⟨"ReturnRows","quarantine","(IZ)V"⟩ : Cond) ∈ lw_tbl := List.mem_of_getElem? (i := 353) rfl
theorem k_354 : (.code ⟨"ReturnRows","quarantine","(IZ)V"⟩ prog_1_method_7_code 4 (Option.none : Option FieldType) : Cond) ∈ lw_tbl := List.mem_of_getElem? (i := 354) rfl
theorem k_355 : (.stringRef "ReturnRows" 95 "the quarantine is so already" : Cond) ∈ lw_tbl := List.mem_of_getElem? (i := 355) rfl
theorem k_356 : (.methodLink "ReturnRows" 97 ⟨"ReturnRows","requireHereOrGraded","(LReturnRows$Return;)V"⟩ : Cond) ∈ lw_tbl := List.mem_of_getElem? (i := 356) rfl
theorem k_357 : (.static ⟨"ReturnRows","requireHereOrGraded","(LReturnRows$Return;)V"⟩ : Cond) ∈ lw_tbl := List.mem_of_getElem? (i := 357) rfl
theorem k_358 : (.code ⟨"ReturnRows","requireHereOrGraded","(LReturnRows$Return;)V"⟩ prog_1_method_26_code 1 (Option.none : Option FieldType) : Cond) ∈ lw_tbl := List.mem_of_getElem? (i := 358) rfl
theorem k_359 : (.stringRef "ReturnRows" 205 "the return is neither here nor graded" : Cond) ∈ lw_tbl := List.mem_of_getElem? (i := 359) rfl
theorem k_360 : (.methodLink "ReturnRowsLaw" 114 ⟨"ReturnRowsLaw","check","(LReturnRows;IIZ[J)I"⟩ : Cond) ∈ lw_tbl := List.mem_of_getElem? (i := 360) rfl
theorem k_361 : (.static ⟨"ReturnRowsLaw","check","(LReturnRows;IIZ[J)I"⟩ : Cond) ∈ lw_tbl := List.mem_of_getElem? (i := 361) rfl
theorem k_362 : (.codeWith ⟨"ReturnRowsLaw","check","(LReturnRows;IIZ[J)I"⟩ method_9_code 6 (Option.some FieldType.int) [(0, 12, 15, 25), (0, 12, 19, 13), (0, 12, 23, 27)] : Cond) ∈ lw_tbl := List.mem_of_getElem? (i := 362) rfl
theorem k_363 : (.methodLink "ReturnRowsLaw" 41 ⟨"ReturnRows","check","(IIZ)I"⟩ : Cond) ∈ lw_tbl := List.mem_of_getElem? (i := 363) rfl
theorem k_364 : (.instanceMethod ⟨"ReturnRows","check","(IIZ)I"⟩ : Cond) ∈ lw_tbl := List.mem_of_getElem? (i := 364) rfl
theorem k_365 : (.selects "ReturnRows" ⟨"ReturnRows","check","(IIZ)I"⟩ ⟨"ReturnRows","check","(IIZ)I"⟩ : Cond) ∈ lw_tbl := List.mem_of_getElem? (i := 365) rfl
theorem k_366 : (.code ⟨"ReturnRows","check","(IIZ)I"⟩ prog_1_method_8_code 6 (Option.some FieldType.int) : Cond) ∈ lw_tbl := List.mem_of_getElem? (i := 366) rfl
theorem k_367 : (.methodLink "ReturnRows" 103 ⟨"java/lang/Integer","bitCount","(I)I"⟩ : Cond) ∈ lw_tbl := List.mem_of_getElem? (i := 367) rfl
theorem k_368 : (.static ⟨"java/lang/Integer","bitCount","(I)I"⟩ : Cond) ∈ lw_tbl := List.mem_of_getElem? (i := 368) rfl
theorem k_369 : (.code ⟨"java/lang/Integer","bitCount","(I)I"⟩ prog_9_method_49_code 1 (Option.some FieldType.int) : Cond) ∈ lw_tbl := List.mem_of_getElem? (i := 369) rfl
theorem k_370 : (.constant "java/lang/Integer" 265 1431655765 : Cond) ∈ lw_tbl := List.mem_of_getElem? (i := 370) rfl
theorem k_371 : (.constant "java/lang/Integer" 266 858993459 : Cond) ∈ lw_tbl := List.mem_of_getElem? (i := 371) rfl
theorem k_372 : (.constant "java/lang/Integer" 267 252645135 : Cond) ∈ lw_tbl := List.mem_of_getElem? (i := 372) rfl
theorem k_373 : (.methodLink "ReturnRowsLaw" 117 ⟨"ReturnRowsLaw","grade","(LReturnRows;II[J)I"⟩ : Cond) ∈ lw_tbl := List.mem_of_getElem? (i := 373) rfl
theorem k_374 : (.static ⟨"ReturnRowsLaw","grade","(LReturnRows;II[J)I"⟩ : Cond) ∈ lw_tbl := List.mem_of_getElem? (i := 374) rfl
theorem k_375 : (.codeWith ⟨"ReturnRowsLaw","grade","(LReturnRows;II[J)I"⟩ method_10_code 5 (Option.some FieldType.int) [(0, 10, 13, 25), (0, 10, 17, 13), (0, 10, 21, 27)] : Cond) ∈ lw_tbl := List.mem_of_getElem? (i := 375) rfl
theorem k_376 : (.methodLink "ReturnRowsLaw" 44 ⟨"ReturnRows","grade","(II)I"⟩ : Cond) ∈ lw_tbl := List.mem_of_getElem? (i := 376) rfl
theorem k_377 : (.instanceMethod ⟨"ReturnRows","grade","(II)I"⟩ : Cond) ∈ lw_tbl := List.mem_of_getElem? (i := 377) rfl
theorem k_378 : (.selects "ReturnRows" ⟨"ReturnRows","grade","(II)I"⟩ ⟨"ReturnRows","grade","(II)I"⟩ : Cond) ∈ lw_tbl := List.mem_of_getElem? (i := 378) rfl
theorem k_379 : (.code ⟨"ReturnRows","grade","(II)I"⟩ prog_1_method_9_code 4 (Option.some FieldType.int) : Cond) ∈ lw_tbl := List.mem_of_getElem? (i := 379) rfl
theorem k_380 : (.methodLink "ReturnRows" 109 ⟨"ReturnRows","requireNoQuarantine","(LReturnRows$Return;)V"⟩ : Cond) ∈ lw_tbl := List.mem_of_getElem? (i := 380) rfl
set_option maxRecDepth 8000 in
theorem k_381 : (.static ⟨"ReturnRows","requireNoQuarantine","(LReturnRows$Return;)V"⟩ : Cond) ∈ lw_tbl := List.mem_of_getElem? (i := 381) rfl
set_option maxRecDepth 8000 in
theorem k_382 : (.code ⟨"ReturnRows","requireNoQuarantine","(LReturnRows$Return;)V"⟩ prog_1_method_27_code 1 (Option.none : Option FieldType) : Cond) ∈ lw_tbl := List.mem_of_getElem? (i := 382) rfl
set_option maxRecDepth 8000 in
theorem k_383 : (.stringRef "ReturnRows" 207 "the return is quarantined" : Cond) ∈ lw_tbl := List.mem_of_getElem? (i := 383) rfl
set_option maxRecDepth 8000 in
theorem k_384 : (.stringRef "ReturnRows" 112 "a bad check forbids so good a grade" : Cond) ∈ lw_tbl := List.mem_of_getElem? (i := 384) rfl
set_option maxRecDepth 8000 in
theorem k_385 : (.methodLink "ReturnRows" 114 ⟨"ReturnRows$Return","takeGrade","(I)V"⟩ : Cond) ∈ lw_tbl := List.mem_of_getElem? (i := 385) rfl
set_option maxRecDepth 8000 in
theorem k_386 : (.instanceMethod ⟨"ReturnRows$Return","takeGrade","(I)V"⟩ : Cond) ∈ lw_tbl := List.mem_of_getElem? (i := 386) rfl
set_option maxRecDepth 8000 in
theorem k_387 : (.selects "ReturnRows$Return" ⟨"ReturnRows$Return","takeGrade","(I)V"⟩ ⟨"ReturnRows$Return","takeGrade","(I)V"⟩ : Cond) ∈ lw_tbl := List.mem_of_getElem? (i := 387) rfl
set_option maxRecDepth 8000 in
theorem k_388 : (.code ⟨"ReturnRows$Return","takeGrade","(I)V"⟩ prog_2_method_2_code 2 (Option.none : Option FieldType) : Cond) ∈ lw_tbl := List.mem_of_getElem? (i := 388) rfl
set_option maxRecDepth 8000 in
theorem k_389 : (.methodLink "ReturnRowsLaw" 120 ⟨"ReturnRowsLaw","repair","(LReturnRows;II)I"⟩ : Cond) ∈ lw_tbl := List.mem_of_getElem? (i := 389) rfl
set_option maxRecDepth 8000 in
theorem k_390 : (.static ⟨"ReturnRowsLaw","repair","(LReturnRows;II)I"⟩ : Cond) ∈ lw_tbl := List.mem_of_getElem? (i := 390) rfl
set_option maxRecDepth 8000 in
theorem k_391 : (.codeWith ⟨"ReturnRowsLaw","repair","(LReturnRows;II)I"⟩ method_11_code 4 (Option.some FieldType.int) [(0, 6, 9, 25), (0, 6, 12, 13), (0, 6, 15, 27)] : Cond) ∈ lw_tbl := List.mem_of_getElem? (i := 391) rfl
set_option maxRecDepth 8000 in
theorem k_392 : (.methodLink "ReturnRowsLaw" 47 ⟨"ReturnRows","repair","(II)V"⟩ : Cond) ∈ lw_tbl := List.mem_of_getElem? (i := 392) rfl
set_option maxRecDepth 8000 in
theorem k_393 : (.instanceMethod ⟨"ReturnRows","repair","(II)V"⟩ : Cond) ∈ lw_tbl := List.mem_of_getElem? (i := 393) rfl
set_option maxRecDepth 8000 in
theorem k_394 : (.selects "ReturnRows" ⟨"ReturnRows","repair","(II)V"⟩ ⟨"ReturnRows","repair","(II)V"⟩ : Cond) ∈ lw_tbl := List.mem_of_getElem? (i := 394) rfl
set_option maxRecDepth 8000 in
theorem k_395 : (.code ⟨"ReturnRows","repair","(II)V"⟩ prog_1_method_10_code 4 (Option.none : Option FieldType) : Cond) ∈ lw_tbl := List.mem_of_getElem? (i := 395) rfl
set_option maxRecDepth 8000 in
theorem k_396 : (.methodLink "ReturnRows" 121 ⟨"ReturnRows","requireGraded","(LReturnRows$Return;)V"⟩ : Cond) ∈ lw_tbl := List.mem_of_getElem? (i := 396) rfl
set_option maxRecDepth 8000 in
theorem k_397 : (.static ⟨"ReturnRows","requireGraded","(LReturnRows$Return;)V"⟩ : Cond) ∈ lw_tbl := List.mem_of_getElem? (i := 397) rfl
set_option maxRecDepth 8000 in
theorem k_398 : (.code ⟨"ReturnRows","requireGraded","(LReturnRows$Return;)V"⟩ prog_1_method_25_code 1 (Option.none : Option FieldType) : Cond) ∈ lw_tbl := List.mem_of_getElem? (i := 398) rfl
set_option maxRecDepth 8000 in
theorem k_399 : (.stringRef "ReturnRows" 203 "the return is not graded" : Cond) ∈ lw_tbl := List.mem_of_getElem? (i := 399) rfl
set_option maxRecDepth 8000 in
theorem k_400 : (.stringRef "ReturnRows" 127 "the best grade needs no repair" : Cond) ∈ lw_tbl := List.mem_of_getElem? (i := 400) rfl
set_option maxRecDepth 8000 in
theorem k_401 : (.methodLink "ReturnRowsLaw" 123 ⟨"ReturnRowsLaw","step","(LReturnRows;IZ[J)I"⟩ : Cond) ∈ lw_tbl := List.mem_of_getElem? (i := 401) rfl
set_option maxRecDepth 8000 in
theorem k_402 : (.static ⟨"ReturnRowsLaw","step","(LReturnRows;IZ[J)I"⟩ : Cond) ∈ lw_tbl := List.mem_of_getElem? (i := 402) rfl
set_option maxRecDepth 8000 in
theorem k_403 : (.codeWith ⟨"ReturnRowsLaw","step","(LReturnRows;IZ[J)I"⟩ method_12_code 5 (Option.some FieldType.int) [(0, 10, 13, 25), (0, 10, 17, 27)] : Cond) ∈ lw_tbl := List.mem_of_getElem? (i := 403) rfl
set_option maxRecDepth 8000 in
theorem k_404 : (.methodLink "ReturnRowsLaw" 50 ⟨"ReturnRows","step","(IZ)I"⟩ : Cond) ∈ lw_tbl := List.mem_of_getElem? (i := 404) rfl
set_option maxRecDepth 8000 in
theorem k_405 : (.instanceMethod ⟨"ReturnRows","step","(IZ)I"⟩ : Cond) ∈ lw_tbl := List.mem_of_getElem? (i := 405) rfl
set_option maxRecDepth 8000 in
theorem k_406 : (.selects "ReturnRows" ⟨"ReturnRows","step","(IZ)I"⟩ ⟨"ReturnRows","step","(IZ)I"⟩ : Cond) ∈ lw_tbl := List.mem_of_getElem? (i := 406) rfl
set_option maxRecDepth 8000 in
theorem k_407 : (.code ⟨"ReturnRows","step","(IZ)I"⟩ prog_1_method_11_code 4 (Option.some FieldType.int) : Cond) ∈ lw_tbl := List.mem_of_getElem? (i := 407) rfl
set_option maxRecDepth 8000 in
theorem k_408 : (.stringRef "ReturnRows" 132 "the return is not in repair" : Cond) ∈ lw_tbl := List.mem_of_getElem? (i := 408) rfl
set_option maxRecDepth 8000 in
theorem k_409 : (.methodLink "ReturnRowsLaw" 127 ⟨"ReturnRowsLaw","scrap","(LReturnRows;II[J)I"⟩ : Cond) ∈ lw_tbl := List.mem_of_getElem? (i := 409) rfl
set_option maxRecDepth 8000 in
theorem k_410 : (.static ⟨"ReturnRowsLaw","scrap","(LReturnRows;II[J)I"⟩ : Cond) ∈ lw_tbl := List.mem_of_getElem? (i := 410) rfl
set_option maxRecDepth 8000 in
theorem k_411 : (.codeWith ⟨"ReturnRowsLaw","scrap","(LReturnRows;II[J)I"⟩ method_13_code 5 (Option.some FieldType.int) [(0, 17, 20, 25), (0, 17, 24, 13), (0, 17, 28, 27)] : Cond) ∈ lw_tbl := List.mem_of_getElem? (i := 411) rfl
set_option maxRecDepth 8000 in
theorem k_412 : (.methodLink "ReturnRowsLaw" 54 ⟨"ReturnRows","scrap","(II)Z"⟩ : Cond) ∈ lw_tbl := List.mem_of_getElem? (i := 412) rfl
set_option maxRecDepth 8000 in
theorem k_413 : (.instanceMethod ⟨"ReturnRows","scrap","(II)Z"⟩ : Cond) ∈ lw_tbl := List.mem_of_getElem? (i := 413) rfl
set_option maxRecDepth 8000 in
theorem k_414 : (.selects "ReturnRows" ⟨"ReturnRows","scrap","(II)Z"⟩ ⟨"ReturnRows","scrap","(II)Z"⟩ : Cond) ∈ lw_tbl := List.mem_of_getElem? (i := 414) rfl
set_option maxRecDepth 8000 in
theorem k_415 : (.code ⟨"ReturnRows","scrap","(II)Z"⟩ prog_1_method_12_code 4 (Option.some FieldType.boolean) : Cond) ∈ lw_tbl := List.mem_of_getElem? (i := 415) rfl
set_option maxRecDepth 8000 in
theorem k_416 : (.stringRef "ReturnRows" 134 "the grade is too good for scrap" : Cond) ∈ lw_tbl := List.mem_of_getElem? (i := 416) rfl
set_option maxRecDepth 8000 in
theorem k_417 : (.methodLink "ReturnRows" 136 ⟨"ReturnRows","isCertificateUsed","(I)Z"⟩ : Cond) ∈ lw_tbl := List.mem_of_getElem? (i := 417) rfl
set_option maxRecDepth 8000 in
theorem k_418 : (.privateMethod ⟨"ReturnRows","isCertificateUsed","(I)Z"⟩ : Cond) ∈ lw_tbl := List.mem_of_getElem? (i := 418) rfl
set_option maxRecDepth 8000 in
theorem k_419 : (.instanceMethod ⟨"ReturnRows","isCertificateUsed","(I)Z"⟩ : Cond) ∈ lw_tbl := List.mem_of_getElem? (i := 419) rfl
set_option maxRecDepth 8000 in
theorem k_420 : (.code ⟨"ReturnRows","isCertificateUsed","(I)Z"⟩ prog_1_method_28_code 6 (Option.some FieldType.boolean) : Cond) ∈ lw_tbl := List.mem_of_getElem? (i := 420) rfl
set_option maxRecDepth 8000 in
theorem k_421 : (.methodLink "ReturnRowsLaw" 130 ⟨"ReturnRowsLaw","back","(LReturnRows;I[J)I"⟩ : Cond) ∈ lw_tbl := List.mem_of_getElem? (i := 421) rfl
set_option maxRecDepth 8000 in
theorem k_422 : (.static ⟨"ReturnRowsLaw","back","(LReturnRows;I[J)I"⟩ : Cond) ∈ lw_tbl := List.mem_of_getElem? (i := 422) rfl
set_option maxRecDepth 8000 in
theorem k_423 : (.codeWith ⟨"ReturnRowsLaw","back","(LReturnRows;I[J)I"⟩ method_14_code 4 (Option.some FieldType.int) [(0, 9, 12, 25), (0, 9, 15, 27)] : Cond) ∈ lw_tbl := List.mem_of_getElem? (i := 423) rfl
set_option maxRecDepth 8000 in
theorem k_424 : (.methodLink "ReturnRowsLaw" 58 ⟨"ReturnRows","back","(I)I"⟩ : Cond) ∈ lw_tbl := List.mem_of_getElem? (i := 424) rfl
set_option maxRecDepth 8000 in
theorem k_425 : (.instanceMethod ⟨"ReturnRows","back","(I)I"⟩ : Cond) ∈ lw_tbl := List.mem_of_getElem? (i := 425) rfl
set_option maxRecDepth 8000 in
theorem k_426 : (.selects "ReturnRows" ⟨"ReturnRows","back","(I)I"⟩ ⟨"ReturnRows","back","(I)I"⟩ : Cond) ∈ lw_tbl := List.mem_of_getElem? (i := 426) rfl
set_option maxRecDepth 8000 in
theorem k_427 : (.code ⟨"ReturnRows","back","(I)I"⟩ prog_1_method_13_code 3 (Option.some FieldType.int) : Cond) ∈ lw_tbl := List.mem_of_getElem? (i := 427) rfl
set_option maxRecDepth 8000 in
theorem k_428 : (.stringRef "ReturnRows" 143 "the serial is that of another sale" : Cond) ∈ lw_tbl := List.mem_of_getElem? (i := 428) rfl
set_option maxRecDepth 8000 in
theorem k_429 : (.stringRef "ReturnRows" 145 "the grade is too bad for resale" : Cond) ∈ lw_tbl := List.mem_of_getElem? (i := 429) rfl
set_option maxRecDepth 8000 in
theorem k_430 : (.stringRef "ReturnRows" 150 "the last day of the lot is over" : Cond) ∈ lw_tbl := List.mem_of_getElem? (i := 430) rfl
set_option maxRecDepth 8000 in
theorem k_431 : (.methodLink "ReturnRowsLaw" 134 ⟨"ReturnRowsLaw","missing","(LReturnRows;II)I"⟩ : Cond) ∈ lw_tbl := List.mem_of_getElem? (i := 431) rfl
set_option maxRecDepth 8000 in
theorem k_432 : (.static ⟨"ReturnRowsLaw","missing","(LReturnRows;II)I"⟩ : Cond) ∈ lw_tbl := List.mem_of_getElem? (i := 432) rfl
set_option maxRecDepth 8000 in
theorem k_433 : (.codeWith ⟨"ReturnRowsLaw","missing","(LReturnRows;II)I"⟩ method_15_code 4 (Option.some FieldType.int) [(0, 6, 9, 25), (0, 6, 12, 13), (0, 6, 15, 27)] : Cond) ∈ lw_tbl := List.mem_of_getElem? (i := 433) rfl
set_option maxRecDepth 8000 in
theorem k_434 : (.methodLink "ReturnRowsLaw" 62 ⟨"ReturnRows","missing","(II)V"⟩ : Cond) ∈ lw_tbl := List.mem_of_getElem? (i := 434) rfl
set_option maxRecDepth 8000 in
theorem k_435 : (.instanceMethod ⟨"ReturnRows","missing","(II)V"⟩ : Cond) ∈ lw_tbl := List.mem_of_getElem? (i := 435) rfl
set_option maxRecDepth 8000 in
theorem k_436 : (.selects "ReturnRows" ⟨"ReturnRows","missing","(II)V"⟩ ⟨"ReturnRows","missing","(II)V"⟩ : Cond) ∈ lw_tbl := List.mem_of_getElem? (i := 436) rfl
set_option maxRecDepth 8000 in
theorem k_437 : (.code ⟨"ReturnRows","missing","(II)V"⟩ prog_1_method_14_code 4 (Option.none : Option FieldType) : Cond) ∈ lw_tbl := List.mem_of_getElem? (i := 437) rfl
set_option maxRecDepth 8000 in
theorem k_438 : (.methodLink "ReturnRowsLaw" 137 ⟨"ReturnRowsLaw","refund","(LReturnRows;II[J)I"⟩ : Cond) ∈ lw_tbl := List.mem_of_getElem? (i := 438) rfl
set_option maxRecDepth 8000 in
theorem k_439 : (.static ⟨"ReturnRowsLaw","refund","(LReturnRows;II[J)I"⟩ : Cond) ∈ lw_tbl := List.mem_of_getElem? (i := 439) rfl
set_option maxRecDepth 8000 in
theorem k_440 : (.codeWith ⟨"ReturnRowsLaw","refund","(LReturnRows;II[J)I"⟩ method_16_code 5 (Option.some FieldType.int) [(0, 10, 13, 25), (0, 10, 17, 13), (0, 10, 21, 27)] : Cond) ∈ lw_tbl := List.mem_of_getElem? (i := 440) rfl
set_option maxRecDepth 8000 in
theorem k_441 : (.methodLink "ReturnRowsLaw" 65 ⟨"ReturnRows","refund","(II)I"⟩ : Cond) ∈ lw_tbl := List.mem_of_getElem? (i := 441) rfl
set_option maxRecDepth 8000 in
theorem k_442 : (.instanceMethod ⟨"ReturnRows","refund","(II)I"⟩ : Cond) ∈ lw_tbl := List.mem_of_getElem? (i := 442) rfl
set_option maxRecDepth 8000 in
theorem k_443 : (.selects "ReturnRows" ⟨"ReturnRows","refund","(II)I"⟩ ⟨"ReturnRows","refund","(II)I"⟩ : Cond) ∈ lw_tbl := List.mem_of_getElem? (i := 443) rfl
set_option maxRecDepth 8000 in
theorem k_444 : (.code ⟨"ReturnRows","refund","(II)I"⟩ prog_1_method_15_code 5 (Option.some FieldType.int) : Cond) ∈ lw_tbl := List.mem_of_getElem? (i := 444) rfl
set_option maxRecDepth 8000 in
theorem k_445 : (.methodLink "ReturnRows" 158 ⟨"ReturnRows$Return","amountDue","()I"⟩ : Cond) ∈ lw_tbl := List.mem_of_getElem? (i := 445) rfl
set_option maxRecDepth 8000 in
theorem k_446 : (.instanceMethod ⟨"ReturnRows$Return","amountDue","()I"⟩ : Cond) ∈ lw_tbl := List.mem_of_getElem? (i := 446) rfl
set_option maxRecDepth 8000 in
theorem k_447 : (.selects "ReturnRows$Return" ⟨"ReturnRows$Return","amountDue","()I"⟩ ⟨"ReturnRows$Return","amountDue","()I"⟩ : Cond) ∈ lw_tbl := List.mem_of_getElem? (i := 447) rfl
set_option maxRecDepth 8000 in
theorem k_448 : (.code ⟨"ReturnRows$Return","amountDue","()I"⟩ prog_2_method_5_code 3 (Option.some FieldType.int) : Cond) ∈ lw_tbl := List.mem_of_getElem? (i := 448) rfl
set_option maxRecDepth 8000 in
theorem k_449 : (.fieldLinkNest "ReturnRows$Return" 52 "ReturnRows" "PERCENTS" "[I" "ReturnRows" : Cond) ∈ lw_tbl := List.mem_of_getElem? (i := 449) rfl
set_option maxRecDepth 8000 in
theorem k_450 : (.laysStatic "ReturnRows" "PERCENTS" "[I" : Cond) ∈ lw_tbl := List.mem_of_getElem? (i := 450) rfl
set_option maxRecDepth 8000 in
theorem k_451 : (.methodLink "ReturnRows$Return" 65 ⟨"java/lang/Math","max","(II)I"⟩ : Cond) ∈ lw_tbl := List.mem_of_getElem? (i := 451) rfl
set_option maxRecDepth 8000 in
theorem k_452 : (.static ⟨"java/lang/Math","max","(II)I"⟩ : Cond) ∈ lw_tbl := List.mem_of_getElem? (i := 452) rfl
set_option maxRecDepth 8000 in
theorem k_453 : (.code ⟨"java/lang/Math","max","(II)I"⟩ prog_10_method_65_code 2 (Option.some FieldType.int) : Cond) ∈ lw_tbl := List.mem_of_getElem? (i := 453) rfl
set_option maxRecDepth 8000 in
theorem k_454 : (.stringRef "ReturnRows" 165 "this is more than is left" : Cond) ∈ lw_tbl := List.mem_of_getElem? (i := 454) rfl
set_option maxRecDepth 8000 in
theorem k_455 : (.methodLink "ReturnRowsLaw" 140 ⟨"ReturnRowsLaw","due","(LReturnRows;I[J)I"⟩ : Cond) ∈ lw_tbl := List.mem_of_getElem? (i := 455) rfl
set_option maxRecDepth 8000 in
theorem k_456 : (.static ⟨"ReturnRowsLaw","due","(LReturnRows;I[J)I"⟩ : Cond) ∈ lw_tbl := List.mem_of_getElem? (i := 456) rfl
set_option maxRecDepth 8000 in
theorem k_457 : (.codeWith ⟨"ReturnRowsLaw","due","(LReturnRows;I[J)I"⟩ method_17_code 4 (Option.some FieldType.int) [(0, 9, 12, 25)] : Cond) ∈ lw_tbl := List.mem_of_getElem? (i := 457) rfl
set_option maxRecDepth 8000 in
theorem k_458 : (.methodLink "ReturnRowsLaw" 68 ⟨"ReturnRows","due","(I)I"⟩ : Cond) ∈ lw_tbl := List.mem_of_getElem? (i := 458) rfl
set_option maxRecDepth 8000 in
theorem k_459 : (.instanceMethod ⟨"ReturnRows","due","(I)I"⟩ : Cond) ∈ lw_tbl := List.mem_of_getElem? (i := 459) rfl
set_option maxRecDepth 8000 in
theorem k_460 : (.selects "ReturnRows" ⟨"ReturnRows","due","(I)I"⟩ ⟨"ReturnRows","due","(I)I"⟩ : Cond) ∈ lw_tbl := List.mem_of_getElem? (i := 460) rfl
set_option maxRecDepth 8000 in
theorem k_461 : (.code ⟨"ReturnRows","due","(I)I"⟩ prog_1_method_16_code 2 (Option.some FieldType.int) : Cond) ∈ lw_tbl := List.mem_of_getElem? (i := 461) rfl
set_option maxRecDepth 8000 in
theorem k_462 : (.methodLink "ReturnRowsLaw" 143 ⟨"ReturnRowsLaw","reason","(LReturnRows;II[J)I"⟩ : Cond) ∈ lw_tbl := List.mem_of_getElem? (i := 462) rfl
set_option maxRecDepth 8000 in
theorem k_463 : (.static ⟨"ReturnRowsLaw","reason","(LReturnRows;II[J)I"⟩ : Cond) ∈ lw_tbl := List.mem_of_getElem? (i := 463) rfl
set_option maxRecDepth 8000 in
theorem k_464 : (.codeWith ⟨"ReturnRowsLaw","reason","(LReturnRows;II[J)I"⟩ method_18_code 5 (Option.some FieldType.int) [(0, 10, 13, 13)] : Cond) ∈ lw_tbl := List.mem_of_getElem? (i := 464) rfl
set_option maxRecDepth 8000 in
theorem k_465 : (.methodLink "ReturnRowsLaw" 71 ⟨"ReturnRows","reason","(II)I"⟩ : Cond) ∈ lw_tbl := List.mem_of_getElem? (i := 465) rfl
set_option maxRecDepth 8000 in
theorem k_466 : (.instanceMethod ⟨"ReturnRows","reason","(II)I"⟩ : Cond) ∈ lw_tbl := List.mem_of_getElem? (i := 466) rfl
set_option maxRecDepth 8000 in
theorem k_467 : (.selects "ReturnRows" ⟨"ReturnRows","reason","(II)I"⟩ ⟨"ReturnRows","reason","(II)I"⟩ : Cond) ∈ lw_tbl := List.mem_of_getElem? (i := 467) rfl
set_option maxRecDepth 8000 in
theorem k_468 : (.code ⟨"ReturnRows","reason","(II)I"⟩ prog_1_method_17_code 3 (Option.some FieldType.int) : Cond) ∈ lw_tbl := List.mem_of_getElem? (i := 468) rfl
set_option maxRecDepth 8000 in
theorem k_469 : (.stringRef "ReturnRows" 173 "a reason has no such number" : Cond) ∈ lw_tbl := List.mem_of_getElem? (i := 469) rfl
set_option maxRecDepth 8000 in
theorem k_470 : (.methodLink "ReturnRowsLaw" 146 ⟨"ReturnRowsLaw","customer","(LReturnRows;II[J)I"⟩ : Cond) ∈ lw_tbl := List.mem_of_getElem? (i := 470) rfl
set_option maxRecDepth 8000 in
theorem k_471 : (.static ⟨"ReturnRowsLaw","customer","(LReturnRows;II[J)I"⟩ : Cond) ∈ lw_tbl := List.mem_of_getElem? (i := 471) rfl
set_option maxRecDepth 8000 in
theorem k_472 : (.codeWith ⟨"ReturnRowsLaw","customer","(LReturnRows;II[J)I"⟩ method_19_code 5 (Option.some FieldType.int) [(0, 10, 13, 13)] : Cond) ∈ lw_tbl := List.mem_of_getElem? (i := 472) rfl
set_option maxRecDepth 8000 in
theorem k_473 : (.methodLink "ReturnRowsLaw" 74 ⟨"ReturnRows","customer","(II)I"⟩ : Cond) ∈ lw_tbl := List.mem_of_getElem? (i := 473) rfl
set_option maxRecDepth 8000 in
theorem k_474 : (.instanceMethod ⟨"ReturnRows","customer","(II)I"⟩ : Cond) ∈ lw_tbl := List.mem_of_getElem? (i := 474) rfl
set_option maxRecDepth 8000 in
theorem k_475 : (.selects "ReturnRows" ⟨"ReturnRows","customer","(II)I"⟩ ⟨"ReturnRows","customer","(II)I"⟩ : Cond) ∈ lw_tbl := List.mem_of_getElem? (i := 475) rfl
set_option maxRecDepth 8000 in
theorem k_476 : (.code ⟨"ReturnRows","customer","(II)I"⟩ prog_1_method_18_code 3 (Option.some FieldType.int) : Cond) ∈ lw_tbl := List.mem_of_getElem? (i := 476) rfl
set_option maxRecDepth 8000 in
theorem k_477 : (.methodLink "ReturnRows" 176 ⟨"ReturnRows","salesTo","(I)I"⟩ : Cond) ∈ lw_tbl := List.mem_of_getElem? (i := 477) rfl
set_option maxRecDepth 8000 in
theorem k_478 : (.privateMethod ⟨"ReturnRows","salesTo","(I)I"⟩ : Cond) ∈ lw_tbl := List.mem_of_getElem? (i := 478) rfl
set_option maxRecDepth 8000 in
theorem k_479 : (.instanceMethod ⟨"ReturnRows","salesTo","(I)I"⟩ : Cond) ∈ lw_tbl := List.mem_of_getElem? (i := 479) rfl
set_option maxRecDepth 8000 in
theorem k_480 : (.code ⟨"ReturnRows","salesTo","(I)I"⟩ prog_1_method_30_code 7 (Option.some FieldType.int) : Cond) ∈ lw_tbl := List.mem_of_getElem? (i := 480) rfl
set_option maxRecDepth 8000 in
theorem k_481 : (.methodLink "ReturnRows" 179 ⟨"ReturnRows","isMarked","(I)Z"⟩ : Cond) ∈ lw_tbl := List.mem_of_getElem? (i := 481) rfl
set_option maxRecDepth 8000 in
theorem k_482 : (.privateMethod ⟨"ReturnRows","isMarked","(I)Z"⟩ : Cond) ∈ lw_tbl := List.mem_of_getElem? (i := 482) rfl
set_option maxRecDepth 8000 in
theorem k_483 : (.instanceMethod ⟨"ReturnRows","isMarked","(I)Z"⟩ : Cond) ∈ lw_tbl := List.mem_of_getElem? (i := 483) rfl
set_option maxRecDepth 8000 in
theorem k_484 : (.code ⟨"ReturnRows","isMarked","(I)Z"⟩ prog_1_method_32_code 2 (Option.some FieldType.boolean) : Cond) ∈ lw_tbl := List.mem_of_getElem? (i := 484) rfl
set_option maxRecDepth 8000 in
theorem k_485 : (.methodLink "ReturnRows" 215 ⟨"ReturnRows","recentReturnsOf","(I)I"⟩ : Cond) ∈ lw_tbl := List.mem_of_getElem? (i := 485) rfl
set_option maxRecDepth 8000 in
theorem k_486 : (.privateMethod ⟨"ReturnRows","recentReturnsOf","(I)I"⟩ : Cond) ∈ lw_tbl := List.mem_of_getElem? (i := 486) rfl
set_option maxRecDepth 8000 in
theorem k_487 : (.instanceMethod ⟨"ReturnRows","recentReturnsOf","(I)I"⟩ : Cond) ∈ lw_tbl := List.mem_of_getElem? (i := 487) rfl
set_option maxRecDepth 8000 in
theorem k_488 : (.code ⟨"ReturnRows","recentReturnsOf","(I)I"⟩ prog_1_method_31_code 7 (Option.some FieldType.int) : Cond) ∈ lw_tbl := List.mem_of_getElem? (i := 488) rfl
set_option maxRecDepth 8000 in
theorem k_489 : (.stringRef "ReturnRows" 182 "a customer has no such number" : Cond) ∈ lw_tbl := List.mem_of_getElem? (i := 489) rfl
set_option maxRecDepth 8000 in
theorem k_490 : (.methodLink "ReturnRowsLaw" 149 ⟨"ReturnRowsLaw","told","(LReturnRows;II[J)I"⟩ : Cond) ∈ lw_tbl := List.mem_of_getElem? (i := 490) rfl
set_option maxRecDepth 8000 in
theorem k_491 : (.static ⟨"ReturnRowsLaw","told","(LReturnRows;II[J)I"⟩ : Cond) ∈ lw_tbl := List.mem_of_getElem? (i := 491) rfl
set_option maxRecDepth 8000 in
theorem k_492 : (.codeWith ⟨"ReturnRowsLaw","told","(LReturnRows;II[J)I"⟩ method_20_code 5 (Option.some FieldType.int) [(0, 10, 13, 25), (0, 10, 17, 13)] : Cond) ∈ lw_tbl := List.mem_of_getElem? (i := 492) rfl
set_option maxRecDepth 8000 in
theorem k_493 : (.methodLink "ReturnRowsLaw" 77 ⟨"ReturnRows","told","(II)I"⟩ : Cond) ∈ lw_tbl := List.mem_of_getElem? (i := 493) rfl
set_option maxRecDepth 8000 in
theorem k_494 : (.instanceMethod ⟨"ReturnRows","told","(II)I"⟩ : Cond) ∈ lw_tbl := List.mem_of_getElem? (i := 494) rfl
set_option maxRecDepth 8000 in
theorem k_495 : (.selects "ReturnRows" ⟨"ReturnRows","told","(II)I"⟩ ⟨"ReturnRows","told","(II)I"⟩ : Cond) ∈ lw_tbl := List.mem_of_getElem? (i := 495) rfl
set_option maxRecDepth 8000 in
theorem k_496 : (.code ⟨"ReturnRows","told","(II)I"⟩ prog_1_method_19_code 4 (Option.some FieldType.int) : Cond) ∈ lw_tbl := List.mem_of_getElem? (i := 496) rfl
set_option maxRecDepth 8000 in
theorem k_497 : (.stringRef "ReturnRows" 190 "a return has no such number" : Cond) ∈ lw_tbl := List.mem_of_getElem? (i := 497) rfl
set_option maxRecDepth 8000 in
theorem k_498 : (.classLink "ReturnRowsLaw" 81 "ReturnRowsModel" : Cond) ∈ lw_tbl := List.mem_of_getElem? (i := 498) rfl
set_option maxRecDepth 8000 in
theorem k_499 : (.instantiable "ReturnRowsModel" 23 : Cond) ∈ lw_tbl := List.mem_of_getElem? (i := 499) rfl
set_option maxRecDepth 8000 in
theorem k_500 : (.methodLink "ReturnRowsLaw" 83 ⟨"ReturnRowsModel","<init>","()V"⟩ : Cond) ∈ lw_tbl := List.mem_of_getElem? (i := 500) rfl
set_option maxRecDepth 8000 in
theorem k_501 : (.instanceMethod ⟨"ReturnRowsModel","<init>","()V"⟩ : Cond) ∈ lw_tbl := List.mem_of_getElem? (i := 501) rfl
set_option maxRecDepth 8000 in
theorem k_502 : (.code ⟨"ReturnRowsModel","<init>","()V"⟩ prog_5_method_1_code 1 (Option.none : Option FieldType) : Cond) ∈ lw_tbl := List.mem_of_getElem? (i := 502) rfl
set_option maxRecDepth 8000 in
theorem k_503 : (.methodLink "ReturnRowsModel" 1 ⟨"java/lang/Object","<init>","()V"⟩ : Cond) ∈ lw_tbl := List.mem_of_getElem? (i := 503) rfl
set_option maxRecDepth 8000 in
theorem k_504 : (.fieldLink "ReturnRowsModel" 68 "ReturnRowsModel" "code" "I" : Cond) ∈ lw_tbl := List.mem_of_getElem? (i := 504) rfl
set_option maxRecDepth 8000 in
theorem k_505 : (.fieldLink "ReturnRowsModel" 82 "ReturnRowsModel" "today" "I" : Cond) ∈ lw_tbl := List.mem_of_getElem? (i := 505) rfl
set_option maxRecDepth 8000 in
theorem k_506 : (.fieldLink "ReturnRowsModel" 72 "ReturnRowsModel" "sales" "I" : Cond) ∈ lw_tbl := List.mem_of_getElem? (i := 506) rfl
set_option maxRecDepth 8000 in
theorem k_507 : (.fieldLink "ReturnRowsModel" 7 "ReturnRowsModel" "customer" "[I" : Cond) ∈ lw_tbl := List.mem_of_getElem? (i := 507) rfl
set_option maxRecDepth 8000 in
theorem k_508 : (.fieldLink "ReturnRowsModel" 13 "ReturnRowsModel" "price" "[I" : Cond) ∈ lw_tbl := List.mem_of_getElem? (i := 508) rfl
set_option maxRecDepth 8000 in
theorem k_509 : (.fieldLink "ReturnRowsModel" 16 "ReturnRowsModel" "last" "[I" : Cond) ∈ lw_tbl := List.mem_of_getElem? (i := 509) rfl
set_option maxRecDepth 8000 in
theorem k_510 : (.fieldLink "ReturnRowsModel" 19 "ReturnRowsModel" "sold" "[I" : Cond) ∈ lw_tbl := List.mem_of_getElem? (i := 510) rfl
set_option maxRecDepth 8000 in
theorem k_511 : (.fieldLink "ReturnRowsModel" 79 "ReturnRowsModel" "returns" "I" : Cond) ∈ lw_tbl := List.mem_of_getElem? (i := 511) rfl
set_option maxRecDepth 8000 in
theorem k_512 : (.fieldLink "ReturnRowsModel" 22 "ReturnRowsModel" "sale" "[I" : Cond) ∈ lw_tbl := List.mem_of_getElem? (i := 512) rfl
set_option maxRecDepth 8000 in
theorem k_513 : (.fieldLink "ReturnRowsModel" 25 "ReturnRowsModel" "reason" "[I" : Cond) ∈ lw_tbl := List.mem_of_getElem? (i := 513) rfl
set_option maxRecDepth 8000 in
theorem k_514 : (.fieldLink "ReturnRowsModel" 28 "ReturnRowsModel" "state" "[I" : Cond) ∈ lw_tbl := List.mem_of_getElem? (i := 514) rfl
set_option maxRecDepth 8000 in
theorem k_515 : (.fieldLink "ReturnRowsModel" 31 "ReturnRowsModel" "came" "[I" : Cond) ∈ lw_tbl := List.mem_of_getElem? (i := 515) rfl
set_option maxRecDepth 8000 in
theorem k_516 : (.fieldLink "ReturnRowsModel" 34 "ReturnRowsModel" "person" "[I" : Cond) ∈ lw_tbl := List.mem_of_getElem? (i := 516) rfl
set_option maxRecDepth 8000 in
theorem k_517 : (.fieldLink "ReturnRowsModel" 37 "ReturnRowsModel" "quarantined" "[Z" : Cond) ∈ lw_tbl := List.mem_of_getElem? (i := 517) rfl
set_option maxRecDepth 8000 in
theorem k_518 : (.fieldLink "ReturnRowsModel" 41 "ReturnRowsModel" "wrong" "[Z" : Cond) ∈ lw_tbl := List.mem_of_getElem? (i := 518) rfl
set_option maxRecDepth 8000 in
theorem k_519 : (.fieldLink "ReturnRowsModel" 44 "ReturnRowsModel" "grade" "[I" : Cond) ∈ lw_tbl := List.mem_of_getElem? (i := 519) rfl
set_option maxRecDepth 8000 in
theorem k_520 : (.fieldLink "ReturnRowsModel" 47 "ReturnRowsModel" "before" "[I" : Cond) ∈ lw_tbl := List.mem_of_getElem? (i := 520) rfl
set_option maxRecDepth 8000 in
theorem k_521 : (.fieldLink "ReturnRowsModel" 50 "ReturnRowsModel" "best" "[I" : Cond) ∈ lw_tbl := List.mem_of_getElem? (i := 521) rfl
set_option maxRecDepth 8000 in
theorem k_522 : (.fieldLink "ReturnRowsModel" 53 "ReturnRowsModel" "bad" "[I" : Cond) ∈ lw_tbl := List.mem_of_getElem? (i := 522) rfl
set_option maxRecDepth 8000 in
theorem k_523 : (.fieldLink "ReturnRowsModel" 56 "ReturnRowsModel" "steps" "[I" : Cond) ∈ lw_tbl := List.mem_of_getElem? (i := 523) rfl
set_option maxRecDepth 8000 in
theorem k_524 : (.fieldLink "ReturnRowsModel" 59 "ReturnRowsModel" "lacks" "[I" : Cond) ∈ lw_tbl := List.mem_of_getElem? (i := 524) rfl
set_option maxRecDepth 8000 in
theorem k_525 : (.fieldLink "ReturnRowsModel" 62 "ReturnRowsModel" "paid" "[I" : Cond) ∈ lw_tbl := List.mem_of_getElem? (i := 525) rfl
set_option maxRecDepth 8000 in
theorem k_526 : (.fieldLink "ReturnRowsModel" 65 "ReturnRowsModel" "certificate" "[I" : Cond) ∈ lw_tbl := List.mem_of_getElem? (i := 526) rfl
set_option maxRecDepth 8000 in
theorem k_527 : (.lays "ReturnRowsModel" "ReturnRowsModel" "code" "I" : Cond) ∈ lw_tbl := List.mem_of_getElem? (i := 527) rfl
set_option maxRecDepth 8000 in
theorem k_528 : (.soleField "ReturnRowsModel" "code" : Cond) ∈ lw_tbl := List.mem_of_getElem? (i := 528) rfl
set_option maxRecDepth 8000 in
theorem k_529 : (.lays "ReturnRowsModel" "ReturnRowsModel" "today" "I" : Cond) ∈ lw_tbl := List.mem_of_getElem? (i := 529) rfl
set_option maxRecDepth 8000 in
theorem k_530 : (.soleField "ReturnRowsModel" "today" : Cond) ∈ lw_tbl := List.mem_of_getElem? (i := 530) rfl
set_option maxRecDepth 8000 in
theorem k_531 : (.lays "ReturnRowsModel" "ReturnRowsModel" "sales" "I" : Cond) ∈ lw_tbl := List.mem_of_getElem? (i := 531) rfl
set_option maxRecDepth 8000 in
theorem k_532 : (.soleField "ReturnRowsModel" "sales" : Cond) ∈ lw_tbl := List.mem_of_getElem? (i := 532) rfl
set_option maxRecDepth 8000 in
theorem k_533 : (.laysFinal "ReturnRowsModel" "ReturnRowsModel" "customer" "[I" : Cond) ∈ lw_tbl := List.mem_of_getElem? (i := 533) rfl
set_option maxRecDepth 8000 in
theorem k_534 : (.soleField "ReturnRowsModel" "customer" : Cond) ∈ lw_tbl := List.mem_of_getElem? (i := 534) rfl
set_option maxRecDepth 8000 in
theorem k_535 : (.laysFinal "ReturnRowsModel" "ReturnRowsModel" "price" "[I" : Cond) ∈ lw_tbl := List.mem_of_getElem? (i := 535) rfl
set_option maxRecDepth 8000 in
theorem k_536 : (.soleField "ReturnRowsModel" "price" : Cond) ∈ lw_tbl := List.mem_of_getElem? (i := 536) rfl
set_option maxRecDepth 8000 in
theorem k_537 : (.laysFinal "ReturnRowsModel" "ReturnRowsModel" "last" "[I" : Cond) ∈ lw_tbl := List.mem_of_getElem? (i := 537) rfl
set_option maxRecDepth 8000 in
theorem k_538 : (.soleField "ReturnRowsModel" "last" : Cond) ∈ lw_tbl := List.mem_of_getElem? (i := 538) rfl
set_option maxRecDepth 8000 in
theorem k_539 : (.laysFinal "ReturnRowsModel" "ReturnRowsModel" "sold" "[I" : Cond) ∈ lw_tbl := List.mem_of_getElem? (i := 539) rfl
set_option maxRecDepth 8000 in
theorem k_540 : (.soleField "ReturnRowsModel" "sold" : Cond) ∈ lw_tbl := List.mem_of_getElem? (i := 540) rfl
set_option maxRecDepth 8000 in
theorem k_541 : (.lays "ReturnRowsModel" "ReturnRowsModel" "returns" "I" : Cond) ∈ lw_tbl := List.mem_of_getElem? (i := 541) rfl
set_option maxRecDepth 8000 in
theorem k_542 : (.soleField "ReturnRowsModel" "returns" : Cond) ∈ lw_tbl := List.mem_of_getElem? (i := 542) rfl
set_option maxRecDepth 8000 in
theorem k_543 : (.laysFinal "ReturnRowsModel" "ReturnRowsModel" "sale" "[I" : Cond) ∈ lw_tbl := List.mem_of_getElem? (i := 543) rfl
set_option maxRecDepth 8000 in
theorem k_544 : (.soleField "ReturnRowsModel" "sale" : Cond) ∈ lw_tbl := List.mem_of_getElem? (i := 544) rfl
set_option maxRecDepth 8000 in
theorem k_545 : (.laysFinal "ReturnRowsModel" "ReturnRowsModel" "reason" "[I" : Cond) ∈ lw_tbl := List.mem_of_getElem? (i := 545) rfl
set_option maxRecDepth 8000 in
theorem k_546 : (.soleField "ReturnRowsModel" "reason" : Cond) ∈ lw_tbl := List.mem_of_getElem? (i := 546) rfl
set_option maxRecDepth 8000 in
theorem k_547 : (.laysFinal "ReturnRowsModel" "ReturnRowsModel" "state" "[I" : Cond) ∈ lw_tbl := List.mem_of_getElem? (i := 547) rfl
set_option maxRecDepth 8000 in
theorem k_548 : (.soleField "ReturnRowsModel" "state" : Cond) ∈ lw_tbl := List.mem_of_getElem? (i := 548) rfl
set_option maxRecDepth 8000 in
theorem k_549 : (.laysFinal "ReturnRowsModel" "ReturnRowsModel" "came" "[I" : Cond) ∈ lw_tbl := List.mem_of_getElem? (i := 549) rfl
set_option maxRecDepth 8000 in
theorem k_550 : (.soleField "ReturnRowsModel" "came" : Cond) ∈ lw_tbl := List.mem_of_getElem? (i := 550) rfl
set_option maxRecDepth 8000 in
theorem k_551 : (.laysFinal "ReturnRowsModel" "ReturnRowsModel" "person" "[I" : Cond) ∈ lw_tbl := List.mem_of_getElem? (i := 551) rfl
set_option maxRecDepth 8000 in
theorem k_552 : (.soleField "ReturnRowsModel" "person" : Cond) ∈ lw_tbl := List.mem_of_getElem? (i := 552) rfl
set_option maxRecDepth 8000 in
theorem k_553 : (.laysFinal "ReturnRowsModel" "ReturnRowsModel" "quarantined" "[Z" : Cond) ∈ lw_tbl := List.mem_of_getElem? (i := 553) rfl
set_option maxRecDepth 8000 in
theorem k_554 : (.soleField "ReturnRowsModel" "quarantined" : Cond) ∈ lw_tbl := List.mem_of_getElem? (i := 554) rfl
set_option maxRecDepth 8000 in
theorem k_555 : (.laysFinal "ReturnRowsModel" "ReturnRowsModel" "wrong" "[Z" : Cond) ∈ lw_tbl := List.mem_of_getElem? (i := 555) rfl
set_option maxRecDepth 8000 in
theorem k_556 : (.soleField "ReturnRowsModel" "wrong" : Cond) ∈ lw_tbl := List.mem_of_getElem? (i := 556) rfl
set_option maxRecDepth 8000 in
theorem k_557 : (.laysFinal "ReturnRowsModel" "ReturnRowsModel" "grade" "[I" : Cond) ∈ lw_tbl := List.mem_of_getElem? (i := 557) rfl
set_option maxRecDepth 8000 in
theorem k_558 : (.soleField "ReturnRowsModel" "grade" : Cond) ∈ lw_tbl := List.mem_of_getElem? (i := 558) rfl
set_option maxRecDepth 8000 in
theorem k_559 : (.laysFinal "ReturnRowsModel" "ReturnRowsModel" "before" "[I" : Cond) ∈ lw_tbl := List.mem_of_getElem? (i := 559) rfl
set_option maxRecDepth 8000 in
theorem k_560 : (.soleField "ReturnRowsModel" "before" : Cond) ∈ lw_tbl := List.mem_of_getElem? (i := 560) rfl
set_option maxRecDepth 8000 in
theorem k_561 : (.laysFinal "ReturnRowsModel" "ReturnRowsModel" "best" "[I" : Cond) ∈ lw_tbl := List.mem_of_getElem? (i := 561) rfl
set_option maxRecDepth 8000 in
theorem k_562 : (.soleField "ReturnRowsModel" "best" : Cond) ∈ lw_tbl := List.mem_of_getElem? (i := 562) rfl
set_option maxRecDepth 8000 in
theorem k_563 : (.laysFinal "ReturnRowsModel" "ReturnRowsModel" "bad" "[I" : Cond) ∈ lw_tbl := List.mem_of_getElem? (i := 563) rfl
set_option maxRecDepth 8000 in
theorem k_564 : (.soleField "ReturnRowsModel" "bad" : Cond) ∈ lw_tbl := List.mem_of_getElem? (i := 564) rfl
set_option maxRecDepth 8000 in
theorem k_565 : (.laysFinal "ReturnRowsModel" "ReturnRowsModel" "steps" "[I" : Cond) ∈ lw_tbl := List.mem_of_getElem? (i := 565) rfl
set_option maxRecDepth 8000 in
theorem k_566 : (.soleField "ReturnRowsModel" "steps" : Cond) ∈ lw_tbl := List.mem_of_getElem? (i := 566) rfl
set_option maxRecDepth 8000 in
theorem k_567 : (.laysFinal "ReturnRowsModel" "ReturnRowsModel" "lacks" "[I" : Cond) ∈ lw_tbl := List.mem_of_getElem? (i := 567) rfl
set_option maxRecDepth 8000 in
theorem k_568 : (.soleField "ReturnRowsModel" "lacks" : Cond) ∈ lw_tbl := List.mem_of_getElem? (i := 568) rfl
set_option maxRecDepth 8000 in
theorem k_569 : (.laysFinal "ReturnRowsModel" "ReturnRowsModel" "paid" "[I" : Cond) ∈ lw_tbl := List.mem_of_getElem? (i := 569) rfl
set_option maxRecDepth 8000 in
theorem k_570 : (.soleField "ReturnRowsModel" "paid" : Cond) ∈ lw_tbl := List.mem_of_getElem? (i := 570) rfl
set_option maxRecDepth 8000 in
theorem k_571 : (.laysFinal "ReturnRowsModel" "ReturnRowsModel" "certificate" "[I" : Cond) ∈ lw_tbl := List.mem_of_getElem? (i := 571) rfl
set_option maxRecDepth 8000 in
theorem k_572 : (.soleField "ReturnRowsModel" "certificate" : Cond) ∈ lw_tbl := List.mem_of_getElem? (i := 572) rfl
set_option maxRecDepth 8000 in
theorem k_573 : (.superclass "ReturnRowsModel" "java/lang/Object" : Cond) ∈ lw_tbl := List.mem_of_getElem? (i := 573) rfl
set_option maxRecDepth 8000 in
theorem k_574 : (.arrayClass FieldType.int : Cond) ∈ lw_tbl := List.mem_of_getElem? (i := 574) rfl
set_option maxRecDepth 8000 in
theorem k_575 : (.arrayClass FieldType.boolean : Cond) ∈ lw_tbl := List.mem_of_getElem? (i := 575) rfl
set_option maxRecDepth 8000 in
theorem k_576 : (.methodLink "ReturnRowsLaw" 90 ⟨"ReturnRowsModel","thrown","()I"⟩ : Cond) ∈ lw_tbl := List.mem_of_getElem? (i := 576) rfl
set_option maxRecDepth 8000 in
theorem k_577 : (.instanceMethod ⟨"ReturnRowsModel","thrown","()I"⟩ : Cond) ∈ lw_tbl := List.mem_of_getElem? (i := 577) rfl
set_option maxRecDepth 8000 in
theorem k_578 : (.selects "ReturnRowsModel" ⟨"ReturnRowsModel","thrown","()I"⟩ ⟨"ReturnRowsModel","thrown","()I"⟩ : Cond) ∈ lw_tbl := List.mem_of_getElem? (i := 578) rfl
set_option maxRecDepth 8000 in
theorem k_579 : (.code ⟨"ReturnRowsModel","thrown","()I"⟩ prog_5_method_2_code 1 (Option.some FieldType.int) : Cond) ∈ lw_tbl := List.mem_of_getElem? (i := 579) rfl
set_option maxRecDepth 8000 in
theorem k_580 : (.methodLink "ReturnRowsLaw" 89 ⟨"ReturnRowsModel","day","(I)V"⟩ : Cond) ∈ lw_tbl := List.mem_of_getElem? (i := 580) rfl
set_option maxRecDepth 8000 in
theorem k_581 : (.instanceMethod ⟨"ReturnRowsModel","day","(I)V"⟩ : Cond) ∈ lw_tbl := List.mem_of_getElem? (i := 581) rfl
set_option maxRecDepth 8000 in
theorem k_582 : (.selects "ReturnRowsModel" ⟨"ReturnRowsModel","day","(I)V"⟩ ⟨"ReturnRowsModel","day","(I)V"⟩ : Cond) ∈ lw_tbl := List.mem_of_getElem? (i := 582) rfl
set_option maxRecDepth 8000 in
theorem k_583 : (.code ⟨"ReturnRowsModel","day","(I)V"⟩ prog_5_method_6_code 2 (Option.none : Option FieldType) : Cond) ∈ lw_tbl := List.mem_of_getElem? (i := 583) rfl
set_option maxRecDepth 8000 in
theorem k_584 : (.methodLink "ReturnRowsModel" 75 ⟨"ReturnRowsModel","in","(III)Z"⟩ : Cond) ∈ lw_tbl := List.mem_of_getElem? (i := 584) rfl
set_option maxRecDepth 8000 in
theorem k_585 : (.static ⟨"ReturnRowsModel","in","(III)Z"⟩ : Cond) ∈ lw_tbl := List.mem_of_getElem? (i := 585) rfl
set_option maxRecDepth 8000 in
theorem k_586 : (.code ⟨"ReturnRowsModel","in","(III)Z"⟩ prog_5_method_3_code 3 (Option.some FieldType.boolean) : Cond) ∈ lw_tbl := List.mem_of_getElem? (i := 586) rfl
set_option maxRecDepth 8000 in
theorem k_587 : (.methodLink "ReturnRowsLaw" 97 ⟨"ReturnRowsModel","sale","(III)I"⟩ : Cond) ∈ lw_tbl := List.mem_of_getElem? (i := 587) rfl
set_option maxRecDepth 8000 in
theorem k_588 : (.instanceMethod ⟨"ReturnRowsModel","sale","(III)I"⟩ : Cond) ∈ lw_tbl := List.mem_of_getElem? (i := 588) rfl
set_option maxRecDepth 8000 in
theorem k_589 : (.selects "ReturnRowsModel" ⟨"ReturnRowsModel","sale","(III)I"⟩ ⟨"ReturnRowsModel","sale","(III)I"⟩ : Cond) ∈ lw_tbl := List.mem_of_getElem? (i := 589) rfl
set_option maxRecDepth 8000 in
theorem k_590 : (.code ⟨"ReturnRowsModel","sale","(III)I"⟩ prog_5_method_7_code 4 (Option.some FieldType.int) : Cond) ∈ lw_tbl := List.mem_of_getElem? (i := 590) rfl
set_option maxRecDepth 8000 in
theorem k_591 : (.constant "ReturnRowsModel" 85 100000 : Cond) ∈ lw_tbl := List.mem_of_getElem? (i := 591) rfl
set_option maxRecDepth 8000 in
theorem k_592 : (.methodLink "ReturnRowsLaw" 101 ⟨"ReturnRowsModel","comes","(IIZ)I"⟩ : Cond) ∈ lw_tbl := List.mem_of_getElem? (i := 592) rfl
set_option maxRecDepth 8000 in
theorem k_593 : (.instanceMethod ⟨"ReturnRowsModel","comes","(IIZ)I"⟩ : Cond) ∈ lw_tbl := List.mem_of_getElem? (i := 593) rfl
set_option maxRecDepth 8000 in
theorem k_594 : (.selects "ReturnRowsModel" ⟨"ReturnRowsModel","comes","(IIZ)I"⟩ ⟨"ReturnRowsModel","comes","(IIZ)I"⟩ : Cond) ∈ lw_tbl := List.mem_of_getElem? (i := 594) rfl
set_option maxRecDepth 8000 in
theorem k_595 : (.code ⟨"ReturnRowsModel","comes","(IIZ)I"⟩ prog_5_method_9_code 4 (Option.some FieldType.int) : Cond) ∈ lw_tbl := List.mem_of_getElem? (i := 595) rfl
set_option maxRecDepth 8000 in
theorem k_596 : (.methodLink "ReturnRowsModel" 86 ⟨"ReturnRowsModel","isSale","(I)Z"⟩ : Cond) ∈ lw_tbl := List.mem_of_getElem? (i := 596) rfl
set_option maxRecDepth 8000 in
theorem k_597 : (.privateMethod ⟨"ReturnRowsModel","isSale","(I)Z"⟩ : Cond) ∈ lw_tbl := List.mem_of_getElem? (i := 597) rfl
set_option maxRecDepth 8000 in
theorem k_598 : (.instanceMethod ⟨"ReturnRowsModel","isSale","(I)Z"⟩ : Cond) ∈ lw_tbl := List.mem_of_getElem? (i := 598) rfl
set_option maxRecDepth 8000 in
theorem k_599 : (.code ⟨"ReturnRowsModel","isSale","(I)Z"⟩ prog_5_method_4_code 2 (Option.some FieldType.boolean) : Cond) ∈ lw_tbl := List.mem_of_getElem? (i := 599) rfl
set_option maxRecDepth 8000 in
theorem k_600 : (.methodLink "ReturnRowsModel" 90 ⟨"ReturnRowsModel","hasReturn","(I)Z"⟩ : Cond) ∈ lw_tbl := List.mem_of_getElem? (i := 600) rfl
set_option maxRecDepth 8000 in
theorem k_601 : (.privateMethod ⟨"ReturnRowsModel","hasReturn","(I)Z"⟩ : Cond) ∈ lw_tbl := List.mem_of_getElem? (i := 601) rfl
set_option maxRecDepth 8000 in
theorem k_602 : (.instanceMethod ⟨"ReturnRowsModel","hasReturn","(I)Z"⟩ : Cond) ∈ lw_tbl := List.mem_of_getElem? (i := 602) rfl
set_option maxRecDepth 8000 in
theorem k_603 : (.code ⟨"ReturnRowsModel","hasReturn","(I)Z"⟩ prog_5_method_8_code 3 (Option.some FieldType.boolean) : Cond) ∈ lw_tbl := List.mem_of_getElem? (i := 603) rfl
set_option maxRecDepth 8000 in
theorem k_604 : (.methodLink "ReturnRowsLaw" 105 ⟨"ReturnRowsModel","arrive","(II)V"⟩ : Cond) ∈ lw_tbl := List.mem_of_getElem? (i := 604) rfl
set_option maxRecDepth 8000 in
theorem k_605 : (.instanceMethod ⟨"ReturnRowsModel","arrive","(II)V"⟩ : Cond) ∈ lw_tbl := List.mem_of_getElem? (i := 605) rfl
set_option maxRecDepth 8000 in
theorem k_606 : (.selects "ReturnRowsModel" ⟨"ReturnRowsModel","arrive","(II)V"⟩ ⟨"ReturnRowsModel","arrive","(II)V"⟩ : Cond) ∈ lw_tbl := List.mem_of_getElem? (i := 606) rfl
set_option maxRecDepth 8000 in
theorem k_607 : (.code ⟨"ReturnRowsModel","arrive","(II)V"⟩ prog_5_method_10_code 3 (Option.none : Option FieldType) : Cond) ∈ lw_tbl := List.mem_of_getElem? (i := 607) rfl
set_option maxRecDepth 8000 in
theorem k_608 : (.methodLink "ReturnRowsModel" 93 ⟨"ReturnRowsModel","isReturn","(I)Z"⟩ : Cond) ∈ lw_tbl := List.mem_of_getElem? (i := 608) rfl
set_option maxRecDepth 8000 in
theorem k_609 : (.privateMethod ⟨"ReturnRowsModel","isReturn","(I)Z"⟩ : Cond) ∈ lw_tbl := List.mem_of_getElem? (i := 609) rfl
set_option maxRecDepth 8000 in
theorem k_610 : (.instanceMethod ⟨"ReturnRowsModel","isReturn","(I)Z"⟩ : Cond) ∈ lw_tbl := List.mem_of_getElem? (i := 610) rfl
set_option maxRecDepth 8000 in
theorem k_611 : (.code ⟨"ReturnRowsModel","isReturn","(I)Z"⟩ prog_5_method_5_code 2 (Option.some FieldType.boolean) : Cond) ∈ lw_tbl := List.mem_of_getElem? (i := 611) rfl
set_option maxRecDepth 8000 in
theorem k_612 : (.methodLink "ReturnRowsLaw" 109 ⟨"ReturnRowsModel","serial","(II)I"⟩ : Cond) ∈ lw_tbl := List.mem_of_getElem? (i := 612) rfl
set_option maxRecDepth 8000 in
theorem k_613 : (.instanceMethod ⟨"ReturnRowsModel","serial","(II)I"⟩ : Cond) ∈ lw_tbl := List.mem_of_getElem? (i := 613) rfl
set_option maxRecDepth 8000 in
theorem k_614 : (.selects "ReturnRowsModel" ⟨"ReturnRowsModel","serial","(II)I"⟩ ⟨"ReturnRowsModel","serial","(II)I"⟩ : Cond) ∈ lw_tbl := List.mem_of_getElem? (i := 614) rfl
set_option maxRecDepth 8000 in
theorem k_615 : (.code ⟨"ReturnRowsModel","serial","(II)I"⟩ prog_5_method_11_code 3 (Option.some FieldType.int) : Cond) ∈ lw_tbl := List.mem_of_getElem? (i := 615) rfl
set_option maxRecDepth 8000 in
theorem k_616 : (.methodLink "ReturnRowsLaw" 113 ⟨"ReturnRowsModel","quarantine","(IZ)V"⟩ : Cond) ∈ lw_tbl := List.mem_of_getElem? (i := 616) rfl
set_option maxRecDepth 8000 in
theorem k_617 : (.instanceMethod ⟨"ReturnRowsModel","quarantine","(IZ)V"⟩ : Cond) ∈ lw_tbl := List.mem_of_getElem? (i := 617) rfl
set_option maxRecDepth 8000 in
theorem k_618 : (.selects "ReturnRowsModel" ⟨"ReturnRowsModel","quarantine","(IZ)V"⟩ ⟨"ReturnRowsModel","quarantine","(IZ)V"⟩ : Cond) ∈ lw_tbl := List.mem_of_getElem? (i := 618) rfl
set_option maxRecDepth 8000 in
theorem k_619 : (.code ⟨"ReturnRowsModel","quarantine","(IZ)V"⟩ prog_5_method_13_code 3 (Option.none : Option FieldType) : Cond) ∈ lw_tbl := List.mem_of_getElem? (i := 619) rfl
set_option maxRecDepth 8000 in
theorem k_620 : (.methodLink "ReturnRowsModel" 96 ⟨"ReturnRowsModel","isSeen","(I)Z"⟩ : Cond) ∈ lw_tbl := List.mem_of_getElem? (i := 620) rfl
set_option maxRecDepth 8000 in
theorem k_621 : (.privateMethod ⟨"ReturnRowsModel","isSeen","(I)Z"⟩ : Cond) ∈ lw_tbl := List.mem_of_getElem? (i := 621) rfl
set_option maxRecDepth 8000 in
theorem k_622 : (.instanceMethod ⟨"ReturnRowsModel","isSeen","(I)Z"⟩ : Cond) ∈ lw_tbl := List.mem_of_getElem? (i := 622) rfl
set_option maxRecDepth 8000 in
theorem k_623 : (.code ⟨"ReturnRowsModel","isSeen","(I)Z"⟩ prog_5_method_12_code 2 (Option.some FieldType.boolean) : Cond) ∈ lw_tbl := List.mem_of_getElem? (i := 623) rfl
set_option maxRecDepth 8000 in
theorem k_624 : (.methodLink "ReturnRowsLaw" 116 ⟨"ReturnRowsModel","check","(IIZ)I"⟩ : Cond) ∈ lw_tbl := List.mem_of_getElem? (i := 624) rfl
set_option maxRecDepth 8000 in
theorem k_625 : (.instanceMethod ⟨"ReturnRowsModel","check","(IIZ)I"⟩ : Cond) ∈ lw_tbl := List.mem_of_getElem? (i := 625) rfl
set_option maxRecDepth 8000 in
theorem k_626 : (.selects "ReturnRowsModel" ⟨"ReturnRowsModel","check","(IIZ)I"⟩ ⟨"ReturnRowsModel","check","(IIZ)I"⟩ : Cond) ∈ lw_tbl := List.mem_of_getElem? (i := 626) rfl
set_option maxRecDepth 8000 in
theorem k_627 : (.code ⟨"ReturnRowsModel","check","(IIZ)I"⟩ prog_5_method_14_code 6 (Option.some FieldType.int) : Cond) ∈ lw_tbl := List.mem_of_getElem? (i := 627) rfl
set_option maxRecDepth 8000 in
theorem k_628 : (.methodLink "ReturnRowsLaw" 119 ⟨"ReturnRowsModel","grade","(II)I"⟩ : Cond) ∈ lw_tbl := List.mem_of_getElem? (i := 628) rfl
set_option maxRecDepth 8000 in
theorem k_629 : (.instanceMethod ⟨"ReturnRowsModel","grade","(II)I"⟩ : Cond) ∈ lw_tbl := List.mem_of_getElem? (i := 629) rfl
set_option maxRecDepth 8000 in
theorem k_630 : (.selects "ReturnRowsModel" ⟨"ReturnRowsModel","grade","(II)I"⟩ ⟨"ReturnRowsModel","grade","(II)I"⟩ : Cond) ∈ lw_tbl := List.mem_of_getElem? (i := 630) rfl
set_option maxRecDepth 8000 in
theorem k_631 : (.code ⟨"ReturnRowsModel","grade","(II)I"⟩ prog_5_method_16_code 3 (Option.some FieldType.int) : Cond) ∈ lw_tbl := List.mem_of_getElem? (i := 631) rfl
set_option maxRecDepth 8000 in
theorem k_632 : (.methodLink "ReturnRowsModel" 99 ⟨"ReturnRowsModel","regrade","(II)V"⟩ : Cond) ∈ lw_tbl := List.mem_of_getElem? (i := 632) rfl
set_option maxRecDepth 8000 in
theorem k_633 : (.privateMethod ⟨"ReturnRowsModel","regrade","(II)V"⟩ : Cond) ∈ lw_tbl := List.mem_of_getElem? (i := 633) rfl
set_option maxRecDepth 8000 in
theorem k_634 : (.instanceMethod ⟨"ReturnRowsModel","regrade","(II)V"⟩ : Cond) ∈ lw_tbl := List.mem_of_getElem? (i := 634) rfl
set_option maxRecDepth 8000 in
theorem k_635 : (.code ⟨"ReturnRowsModel","regrade","(II)V"⟩ prog_5_method_15_code 3 (Option.none : Option FieldType) : Cond) ∈ lw_tbl := List.mem_of_getElem? (i := 635) rfl
set_option maxRecDepth 8000 in
theorem k_636 : (.methodLink "ReturnRowsLaw" 122 ⟨"ReturnRowsModel","repair","(II)V"⟩ : Cond) ∈ lw_tbl := List.mem_of_getElem? (i := 636) rfl
set_option maxRecDepth 8000 in
theorem k_637 : (.instanceMethod ⟨"ReturnRowsModel","repair","(II)V"⟩ : Cond) ∈ lw_tbl := List.mem_of_getElem? (i := 637) rfl
set_option maxRecDepth 8000 in
theorem k_638 : (.selects "ReturnRowsModel" ⟨"ReturnRowsModel","repair","(II)V"⟩ ⟨"ReturnRowsModel","repair","(II)V"⟩ : Cond) ∈ lw_tbl := List.mem_of_getElem? (i := 638) rfl
set_option maxRecDepth 8000 in
theorem k_639 : (.code ⟨"ReturnRowsModel","repair","(II)V"⟩ prog_5_method_17_code 3 (Option.none : Option FieldType) : Cond) ∈ lw_tbl := List.mem_of_getElem? (i := 639) rfl
set_option maxRecDepth 8000 in
theorem k_640 : (.methodLink "ReturnRowsLaw" 126 ⟨"ReturnRowsModel","step","(IZ)I"⟩ : Cond) ∈ lw_tbl := List.mem_of_getElem? (i := 640) rfl
set_option maxRecDepth 8000 in
theorem k_641 : (.instanceMethod ⟨"ReturnRowsModel","step","(IZ)I"⟩ : Cond) ∈ lw_tbl := List.mem_of_getElem? (i := 641) rfl
set_option maxRecDepth 8000 in
theorem k_642 : (.selects "ReturnRowsModel" ⟨"ReturnRowsModel","step","(IZ)I"⟩ ⟨"ReturnRowsModel","step","(IZ)I"⟩ : Cond) ∈ lw_tbl := List.mem_of_getElem? (i := 642) rfl
set_option maxRecDepth 8000 in
theorem k_643 : (.code ⟨"ReturnRowsModel","step","(IZ)I"⟩ prog_5_method_18_code 3 (Option.some FieldType.int) : Cond) ∈ lw_tbl := List.mem_of_getElem? (i := 643) rfl
set_option maxRecDepth 8000 in
theorem k_644 : (.methodLink "ReturnRowsLaw" 129 ⟨"ReturnRowsModel","scrap","(II)Z"⟩ : Cond) ∈ lw_tbl := List.mem_of_getElem? (i := 644) rfl
set_option maxRecDepth 8000 in
theorem k_645 : (.instanceMethod ⟨"ReturnRowsModel","scrap","(II)Z"⟩ : Cond) ∈ lw_tbl := List.mem_of_getElem? (i := 645) rfl
set_option maxRecDepth 8000 in
theorem k_646 : (.selects "ReturnRowsModel" ⟨"ReturnRowsModel","scrap","(II)Z"⟩ ⟨"ReturnRowsModel","scrap","(II)Z"⟩ : Cond) ∈ lw_tbl := List.mem_of_getElem? (i := 646) rfl
set_option maxRecDepth 8000 in
theorem k_647 : (.code ⟨"ReturnRowsModel","scrap","(II)Z"⟩ prog_5_method_19_code 3 (Option.some FieldType.boolean) : Cond) ∈ lw_tbl := List.mem_of_getElem? (i := 647) rfl
set_option maxRecDepth 8000 in
theorem k_648 : (.methodLink "ReturnRowsLaw" 133 ⟨"ReturnRowsModel","back","(I)I"⟩ : Cond) ∈ lw_tbl := List.mem_of_getElem? (i := 648) rfl
set_option maxRecDepth 8000 in
theorem k_649 : (.instanceMethod ⟨"ReturnRowsModel","back","(I)I"⟩ : Cond) ∈ lw_tbl := List.mem_of_getElem? (i := 649) rfl
set_option maxRecDepth 8000 in
theorem k_650 : (.selects "ReturnRowsModel" ⟨"ReturnRowsModel","back","(I)I"⟩ ⟨"ReturnRowsModel","back","(I)I"⟩ : Cond) ∈ lw_tbl := List.mem_of_getElem? (i := 650) rfl
set_option maxRecDepth 8000 in
theorem k_651 : (.code ⟨"ReturnRowsModel","back","(I)I"⟩ prog_5_method_21_code 2 (Option.some FieldType.int) : Cond) ∈ lw_tbl := List.mem_of_getElem? (i := 651) rfl
set_option maxRecDepth 8000 in
theorem k_652 : (.methodLink "ReturnRowsModel" 103 ⟨"ReturnRowsModel","backs","(I)I"⟩ : Cond) ∈ lw_tbl := List.mem_of_getElem? (i := 652) rfl
set_option maxRecDepth 8000 in
theorem k_653 : (.privateMethod ⟨"ReturnRowsModel","backs","(I)I"⟩ : Cond) ∈ lw_tbl := List.mem_of_getElem? (i := 653) rfl
set_option maxRecDepth 8000 in
theorem k_654 : (.instanceMethod ⟨"ReturnRowsModel","backs","(I)I"⟩ : Cond) ∈ lw_tbl := List.mem_of_getElem? (i := 654) rfl
set_option maxRecDepth 8000 in
theorem k_655 : (.code ⟨"ReturnRowsModel","backs","(I)I"⟩ prog_5_method_20_code 4 (Option.some FieldType.int) : Cond) ∈ lw_tbl := List.mem_of_getElem? (i := 655) rfl
set_option maxRecDepth 8000 in
theorem k_656 : (.methodLink "ReturnRowsLaw" 136 ⟨"ReturnRowsModel","missing","(II)V"⟩ : Cond) ∈ lw_tbl := List.mem_of_getElem? (i := 656) rfl
set_option maxRecDepth 8000 in
theorem k_657 : (.instanceMethod ⟨"ReturnRowsModel","missing","(II)V"⟩ : Cond) ∈ lw_tbl := List.mem_of_getElem? (i := 657) rfl
set_option maxRecDepth 8000 in
theorem k_658 : (.selects "ReturnRowsModel" ⟨"ReturnRowsModel","missing","(II)V"⟩ ⟨"ReturnRowsModel","missing","(II)V"⟩ : Cond) ∈ lw_tbl := List.mem_of_getElem? (i := 658) rfl
set_option maxRecDepth 8000 in
theorem k_659 : (.code ⟨"ReturnRowsModel","missing","(II)V"⟩ prog_5_method_22_code 3 (Option.none : Option FieldType) : Cond) ∈ lw_tbl := List.mem_of_getElem? (i := 659) rfl
set_option maxRecDepth 8000 in
theorem k_660 : (.methodLink "ReturnRowsLaw" 142 ⟨"ReturnRowsModel","due","(I)I"⟩ : Cond) ∈ lw_tbl := List.mem_of_getElem? (i := 660) rfl
set_option maxRecDepth 8000 in
theorem k_661 : (.instanceMethod ⟨"ReturnRowsModel","due","(I)I"⟩ : Cond) ∈ lw_tbl := List.mem_of_getElem? (i := 661) rfl
set_option maxRecDepth 8000 in
theorem k_662 : (.selects "ReturnRowsModel" ⟨"ReturnRowsModel","due","(I)I"⟩ ⟨"ReturnRowsModel","due","(I)I"⟩ : Cond) ∈ lw_tbl := List.mem_of_getElem? (i := 662) rfl
set_option maxRecDepth 8000 in
theorem k_663 : (.code ⟨"ReturnRowsModel","due","(I)I"⟩ prog_5_method_25_code 2 (Option.some FieldType.int) : Cond) ∈ lw_tbl := List.mem_of_getElem? (i := 663) rfl
set_option maxRecDepth 8000 in
theorem k_664 : (.methodLink "ReturnRowsModel" 110 ⟨"ReturnRowsModel","dueOf","(I)I"⟩ : Cond) ∈ lw_tbl := List.mem_of_getElem? (i := 664) rfl
set_option maxRecDepth 8000 in
theorem k_665 : (.privateMethod ⟨"ReturnRowsModel","dueOf","(I)I"⟩ : Cond) ∈ lw_tbl := List.mem_of_getElem? (i := 665) rfl
set_option maxRecDepth 8000 in
theorem k_666 : (.instanceMethod ⟨"ReturnRowsModel","dueOf","(I)I"⟩ : Cond) ∈ lw_tbl := List.mem_of_getElem? (i := 666) rfl
set_option maxRecDepth 8000 in
theorem k_667 : (.code ⟨"ReturnRowsModel","dueOf","(I)I"⟩ prog_5_method_24_code 4 (Option.some FieldType.int) : Cond) ∈ lw_tbl := List.mem_of_getElem? (i := 667) rfl
set_option maxRecDepth 8000 in
theorem k_668 : (.methodLink "ReturnRowsModel" 107 ⟨"ReturnRowsModel","percent","(I)I"⟩ : Cond) ∈ lw_tbl := List.mem_of_getElem? (i := 668) rfl
set_option maxRecDepth 8000 in
theorem k_669 : (.static ⟨"ReturnRowsModel","percent","(I)I"⟩ : Cond) ∈ lw_tbl := List.mem_of_getElem? (i := 669) rfl
set_option maxRecDepth 8000 in
theorem k_670 : (.code ⟨"ReturnRowsModel","percent","(I)I"⟩ prog_5_method_23_code 1 (Option.some FieldType.int) : Cond) ∈ lw_tbl := List.mem_of_getElem? (i := 670) rfl
set_option maxRecDepth 8000 in
theorem k_671 : (.methodLink "ReturnRowsLaw" 139 ⟨"ReturnRowsModel","refund","(II)I"⟩ : Cond) ∈ lw_tbl := List.mem_of_getElem? (i := 671) rfl
set_option maxRecDepth 8000 in
theorem k_672 : (.instanceMethod ⟨"ReturnRowsModel","refund","(II)I"⟩ : Cond) ∈ lw_tbl := List.mem_of_getElem? (i := 672) rfl
set_option maxRecDepth 8000 in
theorem k_673 : (.selects "ReturnRowsModel" ⟨"ReturnRowsModel","refund","(II)I"⟩ ⟨"ReturnRowsModel","refund","(II)I"⟩ : Cond) ∈ lw_tbl := List.mem_of_getElem? (i := 673) rfl
set_option maxRecDepth 8000 in
theorem k_674 : (.code ⟨"ReturnRowsModel","refund","(II)I"⟩ prog_5_method_26_code 3 (Option.some FieldType.int) : Cond) ∈ lw_tbl := List.mem_of_getElem? (i := 674) rfl
set_option maxRecDepth 8000 in
theorem k_675 : (.methodLink "ReturnRowsLaw" 145 ⟨"ReturnRowsModel","reason","(II)I"⟩ : Cond) ∈ lw_tbl := List.mem_of_getElem? (i := 675) rfl
set_option maxRecDepth 8000 in
theorem k_676 : (.instanceMethod ⟨"ReturnRowsModel","reason","(II)I"⟩ : Cond) ∈ lw_tbl := List.mem_of_getElem? (i := 676) rfl
set_option maxRecDepth 8000 in
theorem k_677 : (.selects "ReturnRowsModel" ⟨"ReturnRowsModel","reason","(II)I"⟩ ⟨"ReturnRowsModel","reason","(II)I"⟩ : Cond) ∈ lw_tbl := List.mem_of_getElem? (i := 677) rfl
set_option maxRecDepth 8000 in
theorem k_678 : (.code ⟨"ReturnRowsModel","reason","(II)I"⟩ prog_5_method_27_code 5 (Option.some FieldType.int) : Cond) ∈ lw_tbl := List.mem_of_getElem? (i := 678) rfl
set_option maxRecDepth 8000 in
theorem k_679 : (.methodLink "ReturnRowsLaw" 148 ⟨"ReturnRowsModel","customer","(II)I"⟩ : Cond) ∈ lw_tbl := List.mem_of_getElem? (i := 679) rfl
set_option maxRecDepth 8000 in
theorem k_680 : (.instanceMethod ⟨"ReturnRowsModel","customer","(II)I"⟩ : Cond) ∈ lw_tbl := List.mem_of_getElem? (i := 680) rfl
set_option maxRecDepth 8000 in
theorem k_681 : (.selects "ReturnRowsModel" ⟨"ReturnRowsModel","customer","(II)I"⟩ ⟨"ReturnRowsModel","customer","(II)I"⟩ : Cond) ∈ lw_tbl := List.mem_of_getElem? (i := 681) rfl
set_option maxRecDepth 8000 in
theorem k_682 : (.code ⟨"ReturnRowsModel","customer","(II)I"⟩ prog_5_method_29_code 5 (Option.some FieldType.int) : Cond) ∈ lw_tbl := List.mem_of_getElem? (i := 682) rfl
set_option maxRecDepth 8000 in
theorem k_683 : (.methodLink "ReturnRowsModel" 113 ⟨"ReturnRowsModel","returnsOf","(IZ)I"⟩ : Cond) ∈ lw_tbl := List.mem_of_getElem? (i := 683) rfl
set_option maxRecDepth 8000 in
theorem k_684 : (.privateMethod ⟨"ReturnRowsModel","returnsOf","(IZ)I"⟩ : Cond) ∈ lw_tbl := List.mem_of_getElem? (i := 684) rfl
set_option maxRecDepth 8000 in
theorem k_685 : (.instanceMethod ⟨"ReturnRowsModel","returnsOf","(IZ)I"⟩ : Cond) ∈ lw_tbl := List.mem_of_getElem? (i := 685) rfl
set_option maxRecDepth 8000 in
theorem k_686 : (.code ⟨"ReturnRowsModel","returnsOf","(IZ)I"⟩ prog_5_method_28_code 5 (Option.some FieldType.int) : Cond) ∈ lw_tbl := List.mem_of_getElem? (i := 686) rfl
set_option maxRecDepth 8000 in
theorem k_687 : (.methodLink "ReturnRowsLaw" 151 ⟨"ReturnRowsModel","told","(II)I"⟩ : Cond) ∈ lw_tbl := List.mem_of_getElem? (i := 687) rfl
set_option maxRecDepth 8000 in
theorem k_688 : (.instanceMethod ⟨"ReturnRowsModel","told","(II)I"⟩ : Cond) ∈ lw_tbl := List.mem_of_getElem? (i := 688) rfl
set_option maxRecDepth 8000 in
theorem k_689 : (.selects "ReturnRowsModel" ⟨"ReturnRowsModel","told","(II)I"⟩ ⟨"ReturnRowsModel","told","(II)I"⟩ : Cond) ∈ lw_tbl := List.mem_of_getElem? (i := 689) rfl
set_option maxRecDepth 8000 in
theorem k_690 : (.code ⟨"ReturnRowsModel","told","(II)I"⟩ prog_5_method_30_code 3 (Option.some FieldType.int) : Cond) ∈ lw_tbl := List.mem_of_getElem? (i := 690) rfl
set_option maxRecDepth 8000 in
theorem k_691 : (.methodLink "ReturnRowsLaw" 155 ⟨"ReturnRowsModel","count","(I)I"⟩ : Cond) ∈ lw_tbl := List.mem_of_getElem? (i := 691) rfl
set_option maxRecDepth 8000 in
theorem k_692 : (.instanceMethod ⟨"ReturnRowsModel","count","(I)I"⟩ : Cond) ∈ lw_tbl := List.mem_of_getElem? (i := 692) rfl
set_option maxRecDepth 8000 in
theorem k_693 : (.selects "ReturnRowsModel" ⟨"ReturnRowsModel","count","(I)I"⟩ ⟨"ReturnRowsModel","count","(I)I"⟩ : Cond) ∈ lw_tbl := List.mem_of_getElem? (i := 693) rfl
set_option maxRecDepth 8000 in
theorem k_694 : (.code ⟨"ReturnRowsModel","count","(I)I"⟩ prog_5_method_31_code 4 (Option.some FieldType.int) : Cond) ∈ lw_tbl := List.mem_of_getElem? (i := 694) rfl
set_option maxRecDepth 8000 in
theorem k_695 : (.arrayClass FieldType.long : Cond) ∈ lw_tbl := List.mem_of_getElem? (i := 695) rfl
set_option maxRecDepth 8000 in
theorem k_696 : (.sameMethod "java/lang/Throwable" "java/lang/Throwable" "fillInStackTrace" "(I)Ljava/lang/Throwable;" : Cond) ∈ lw_tbl := List.mem_of_getElem? (i := 696) rfl
