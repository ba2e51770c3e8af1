theorem mw_0 : .selects "java/lang/Throwable" ⟨"java/lang/Throwable", "fillInStackTrace", "(I)Ljava/lang/Throwable;"⟩ ⟨"java/lang/Throwable", "fillInStackTrace", "(I)Ljava/lang/Throwable;"⟩ ∈ UW := uw_p0 (List.mem_of_getElem? (i := 0) rfl)
theorem mw_1 : .selects "PlainOrigin$Reader" ⟨"PlainOrigin$Reader", "takeBodyByte", "(I)I"⟩ ⟨"PlainOrigin$Reader", "takeBodyByte", "(I)I"⟩ ∈ UW := uw_p0 (List.mem_of_getElem? (i := 1) rfl)
theorem mw_2 : .selects "PlainOrigin$Reader" ⟨"PlainOrigin$Reader", "takeChunkByte", "(I)I"⟩ ⟨"PlainOrigin$Reader", "takeChunkByte", "(I)I"⟩ ∈ UW := uw_p0 (List.mem_of_getElem? (i := 2) rfl)
theorem mw_3 : .selects "PlainOrigin$Reader" ⟨"PlainOrigin$Reader", "takeLineByte", "(I)I"⟩ ⟨"PlainOrigin$Reader", "takeLineByte", "(I)I"⟩ ∈ UW := uw_p0 (List.mem_of_getElem? (i := 3) rfl)
theorem mw_4 : .selects "PlainOrigin$Reader" ⟨"PlainOrigin$Reader", "tooLong", "()I"⟩ ⟨"PlainOrigin$Reader", "tooLong", "()I"⟩ ∈ UW := uw_p0 (List.mem_of_getElem? (i := 4) rfl)
theorem mw_5 : .selects "PlainOrigin$Reader" ⟨"PlainOrigin$Reader", "endRequestLine", "()I"⟩ ⟨"PlainOrigin$Reader", "endRequestLine", "()I"⟩ ∈ UW := uw_p0 (List.mem_of_getElem? (i := 5) rfl)
theorem mw_6 : .selects "PlainOrigin$Request" ⟨"PlainOrigin$Request", "takePath", "(LPlainOrigin$Bytes;II)V"⟩ ⟨"PlainOrigin$Request", "takePath", "(LPlainOrigin$Bytes;II)V"⟩ ∈ UW := uw_p0 (List.mem_of_getElem? (i := 6) rfl)
theorem mw_7 : .selects "PlainOrigin$Reader" ⟨"PlainOrigin$Reader", "endChunkLine", "()I"⟩ ⟨"PlainOrigin$Reader", "endChunkLine", "()I"⟩ ∈ UW := uw_p0 (List.mem_of_getElem? (i := 7) rfl)
theorem mw_8 : .selects "PlainOrigin$Reader" ⟨"PlainOrigin$Reader", "endTrailer", "()I"⟩ ⟨"PlainOrigin$Reader", "endTrailer", "()I"⟩ ∈ UW := uw_p0 (List.mem_of_getElem? (i := 8) rfl)
theorem mw_9 : .selects "PlainOrigin$Fields" ⟨"PlainOrigin$Fields", "cut", "(II)V"⟩ ⟨"PlainOrigin$Fields", "cut", "(II)V"⟩ ∈ UW := uw_p0 (List.mem_of_getElem? (i := 9) rfl)
theorem mw_10 : .selects "PlainOrigin$Fields" ⟨"PlainOrigin$Fields", "keepElement", "(II)V"⟩ ⟨"PlainOrigin$Fields", "keepElement", "(II)V"⟩ ∈ UW := uw_p0 (List.mem_of_getElem? (i := 10) rfl)
theorem mw_11 : .selects "PlainOrigin$Answer" ⟨"PlainOrigin$Answer", "list", "(LPlainOrigin$Site;)V"⟩ ⟨"PlainOrigin$Answer", "list", "(LPlainOrigin$Site;)V"⟩ ∈ UW := uw_p0 (List.mem_of_getElem? (i := 11) rfl)
theorem mw_12 : .selects "PlainOrigin$Answer" ⟨"PlainOrigin$Answer", "show", "(LPlainOrigin$Method;LPlainOrigin$Bytes;)V"⟩ ⟨"PlainOrigin$Answer", "show", "(LPlainOrigin$Method;LPlainOrigin$Bytes;)V"⟩ ∈ UW := uw_p0 (List.mem_of_getElem? (i := 12) rfl)
theorem mw_13 : .selects "PlainOrigin$Answer" ⟨"PlainOrigin$Answer", "read", "(LPlainOrigin$Request;LPlainOrigin$Resource;)V"⟩ ⟨"PlainOrigin$Answer", "read", "(LPlainOrigin$Request;LPlainOrigin$Resource;)V"⟩ ∈ UW := uw_p0 (List.mem_of_getElem? (i := 13) rfl)
theorem mw_14 : .selects "PlainOrigin$Answer" ⟨"PlainOrigin$Answer", "isKnown", "(LPlainOrigin$Fields;I)Z"⟩ ⟨"PlainOrigin$Answer", "isKnown", "(LPlainOrigin$Fields;I)Z"⟩ ∈ UW := uw_p0 (List.mem_of_getElem? (i := 14) rfl)
theorem mw_15 : .selects "PlainOrigin$Answer" ⟨"PlainOrigin$Answer", "showRange", "(LPlainOrigin$Bytes;)V"⟩ ⟨"PlainOrigin$Answer", "showRange", "(LPlainOrigin$Bytes;)V"⟩ ∈ UW := uw_p0 (List.mem_of_getElem? (i := 15) rfl)
theorem mw_16 : .selects "PlainOrigin" ⟨"PlainOrigin", "send", "(I)V"⟩ ⟨"PlainOrigin", "send", "(I)V"⟩ ∈ UW := uw_p1 (List.mem_of_getElem? (i := 0) rfl)
theorem mw_17 : .selects "PlainOrigin$Outbox" ⟨"PlainOrigin$Outbox", "writeText", "(Ljava/lang/String;)V"⟩ ⟨"PlainOrigin$Outbox", "writeText", "(Ljava/lang/String;)V"⟩ ∈ UW := uw_p1 (List.mem_of_getElem? (i := 1) rfl)
theorem mw_18 : .selects "PlainOrigin$Outbox" ⟨"PlainOrigin$Outbox", "writeByte", "(I)V"⟩ ⟨"PlainOrigin$Outbox", "writeByte", "(I)V"⟩ ∈ UW := uw_p1 (List.mem_of_getElem? (i := 2) rfl)
theorem mw_19 : .selects "PlainOrigin$Outbox" ⟨"PlainOrigin$Outbox", "writeNumber", "(I)V"⟩ ⟨"PlainOrigin$Outbox", "writeNumber", "(I)V"⟩ ∈ UW := uw_p1 (List.mem_of_getElem? (i := 3) rfl)
theorem mw_20 : .selects "PlainOrigin$Outbox" ⟨"PlainOrigin$Outbox", "writeFields", "(LPlainOrigin$Answer;)V"⟩ ⟨"PlainOrigin$Outbox", "writeFields", "(LPlainOrigin$Answer;)V"⟩ ∈ UW := uw_p1 (List.mem_of_getElem? (i := 4) rfl)
theorem mw_21 : .selects "PlainOrigin$Outbox" ⟨"PlainOrigin$Outbox", "writeRange", "(LPlainOrigin$Answer;)V"⟩ ⟨"PlainOrigin$Outbox", "writeRange", "(LPlainOrigin$Answer;)V"⟩ ∈ UW := uw_p1 (List.mem_of_getElem? (i := 5) rfl)
theorem mw_22 : .selects "PlainOrigin" ⟨"PlainOrigin", "resourceOf", "(I)LPlainOrigin$Resource;"⟩ ⟨"PlainOrigin", "resourceOf", "(I)LPlainOrigin$Resource;"⟩ ∈ UW := uw_p1 (List.mem_of_getElem? (i := 6) rfl)
theorem mw_23 : .selects "PlainOriginModel" ⟨"PlainOriginModel", "take", "(I)V"⟩ ⟨"PlainOriginModel", "take", "(I)V"⟩ ∈ UW := uw_p1 (List.mem_of_getElem? (i := 7) rfl)
theorem mw_24 : .selects "PlainOriginModel" ⟨"PlainOriginModel", "answer", "()V"⟩ ⟨"PlainOriginModel", "answer", "()V"⟩ ∈ UW := uw_p1 (List.mem_of_getElem? (i := 8) rfl)
theorem mw_25 : .selects "PlainOriginModel" ⟨"PlainOriginModel", "resource", "()I"⟩ ⟨"PlainOriginModel", "resource", "()I"⟩ ∈ UW := uw_p1 (List.mem_of_getElem? (i := 9) rfl)
theorem mw_26 : .selects "PlainOriginModel" ⟨"PlainOriginModel", "respond", "(IIIIII)V"⟩ ⟨"PlainOriginModel", "respond", "(IIIIII)V"⟩ ∈ UW := uw_p1 (List.mem_of_getElem? (i := 10) rfl)
theorem mw_27 : .selects "PlainOriginModel" ⟨"PlainOriginModel", "sayStatus", "(I)V"⟩ ⟨"PlainOriginModel", "sayStatus", "(I)V"⟩ ∈ UW := uw_p1 (List.mem_of_getElem? (i := 11) rfl)
theorem mw_28 : .selects "PlainOriginModel" ⟨"PlainOriginModel", "sayWord", "(I)V"⟩ ⟨"PlainOriginModel", "sayWord", "(I)V"⟩ ∈ UW := uw_p1 (List.mem_of_getElem? (i := 12) rfl)
theorem mw_29 : .selects "PlainOriginModel" ⟨"PlainOriginModel", "letter", "(I)I"⟩ ⟨"PlainOriginModel", "letter", "(I)I"⟩ ∈ UW := uw_p1 (List.mem_of_getElem? (i := 13) rfl)
theorem mw_30 : .selects "PlainOriginModel" ⟨"PlainOriginModel", "say", "(I)V"⟩ ⟨"PlainOriginModel", "say", "(I)V"⟩ ∈ UW := uw_p1 (List.mem_of_getElem? (i := 14) rfl)
theorem mw_31 : .selects "PlainOriginModel" ⟨"PlainOriginModel", "sayNumber", "(I)V"⟩ ⟨"PlainOriginModel", "sayNumber", "(I)V"⟩ ∈ UW := uw_p1 (List.mem_of_getElem? (i := 15) rfl)
theorem mw_32 : .selects "PlainOriginModel" ⟨"PlainOriginModel", "endSaying", "()V"⟩ ⟨"PlainOriginModel", "endSaying", "()V"⟩ ∈ UW := uw_p2 (List.mem_of_getElem? (i := 0) rfl)
theorem mw_33 : .selects "PlainOriginModel" ⟨"PlainOriginModel", "tellSite", "()V"⟩ ⟨"PlainOriginModel", "tellSite", "()V"⟩ ∈ UW := uw_p2 (List.mem_of_getElem? (i := 1) rfl)
theorem mw_34 : .selects "PlainOriginModel" ⟨"PlainOriginModel", "tell", "(I)V"⟩ ⟨"PlainOriginModel", "tell", "(I)V"⟩ ∈ UW := uw_p2 (List.mem_of_getElem? (i := 2) rfl)
theorem mw_35 : .selects "PlainOriginModel" ⟨"PlainOriginModel", "isKnown", "(I)Z"⟩ ⟨"PlainOriginModel", "isKnown", "(I)Z"⟩ ∈ UW := uw_p2 (List.mem_of_getElem? (i := 3) rfl)
theorem mw_36 : .selects "PlainOriginModel" ⟨"PlainOriginModel", "list", "(I)V"⟩ ⟨"PlainOriginModel", "list", "(I)V"⟩ ∈ UW := uw_p2 (List.mem_of_getElem? (i := 4) rfl)
theorem mw_37 : .selects "PlainOriginModel" ⟨"PlainOriginModel", "isNamed", "(II)Z"⟩ ⟨"PlainOriginModel", "isNamed", "(II)Z"⟩ ∈ UW := uw_p2 (List.mem_of_getElem? (i := 5) rfl)
theorem mw_38 : .selects "PlainOriginModel" ⟨"PlainOriginModel", "isWord", "(III)Z"⟩ ⟨"PlainOriginModel", "isWord", "(III)Z"⟩ ∈ UW := uw_p2 (List.mem_of_getElem? (i := 6) rfl)
theorem mw_39 : .selects "PlainOriginModel" ⟨"PlainOriginModel", "notice", "(II)V"⟩ ⟨"PlainOriginModel", "notice", "(II)V"⟩ ∈ UW := uw_p2 (List.mem_of_getElem? (i := 7) rfl)
theorem mw_40 : .selects "PlainOriginModel" ⟨"PlainOriginModel", "isBlank", "(I)Z"⟩ ⟨"PlainOriginModel", "isBlank", "(I)Z"⟩ ∈ UW := uw_p2 (List.mem_of_getElem? (i := 8) rfl)
theorem mw_41 : .selects "PlainOriginModel" ⟨"PlainOriginModel", "numberAt", "(II)I"⟩ ⟨"PlainOriginModel", "numberAt", "(II)I"⟩ ∈ UW := uw_p2 (List.mem_of_getElem? (i := 9) rfl)
theorem mw_42 : .selects "PlainOriginModel" ⟨"PlainOriginModel", "count", "(I)I"⟩ ⟨"PlainOriginModel", "count", "(I)I"⟩ ∈ UW := uw_p2 (List.mem_of_getElem? (i := 10) rfl)
theorem mw_43 : .selects "PlainOriginModel" ⟨"PlainOriginModel", "change", "(I)V"⟩ ⟨"PlainOriginModel", "change", "(I)V"⟩ ∈ UW := uw_p2 (List.mem_of_getElem? (i := 11) rfl)
theorem mw_44 : .selects "PlainOriginModel" ⟨"PlainOriginModel", "hasStar", "()Z"⟩ ⟨"PlainOriginModel", "hasStar", "()Z"⟩ ∈ UW := uw_p2 (List.mem_of_getElem? (i := 12) rfl)
theorem mw_45 : .selects "PlainOriginModel" ⟨"PlainOriginModel", "blame", "(ZI)V"⟩ ⟨"PlainOriginModel", "blame", "(ZI)V"⟩ ∈ UW := uw_p2 (List.mem_of_getElem? (i := 13) rfl)
theorem mw_46 : .selects "PlainOriginModel" ⟨"PlainOriginModel", "takeLine", "()V"⟩ ⟨"PlainOriginModel", "takeLine", "()V"⟩ ∈ UW := uw_p2 (List.mem_of_getElem? (i := 14) rfl)
theorem mw_47 : .selects "PlainOriginModel" ⟨"PlainOriginModel", "takeRequestLine", "()V"⟩ ⟨"PlainOriginModel", "takeRequestLine", "()V"⟩ ∈ UW := uw_p2 (List.mem_of_getElem? (i := 15) rfl)
theorem mw_48 : .selects "PlainOriginModel" ⟨"PlainOriginModel", "find", "(II)I"⟩ ⟨"PlainOriginModel", "find", "(II)I"⟩ ∈ UW := uw_p3 (List.mem_of_getElem? (i := 0) rfl)
theorem mw_49 : .selects "PlainOriginModel" ⟨"PlainOriginModel", "isToken", "(I)Z"⟩ ⟨"PlainOriginModel", "isToken", "(I)Z"⟩ ∈ UW := uw_p3 (List.mem_of_getElem? (i := 1) rfl)
theorem mw_50 : .selects "PlainOriginModel" ⟨"PlainOriginModel", "isTarget", "(II)Z"⟩ ⟨"PlainOriginModel", "isTarget", "(II)Z"⟩ ∈ UW := uw_p3 (List.mem_of_getElem? (i := 2) rfl)
theorem mw_51 : .selects "PlainOriginModel" ⟨"PlainOriginModel", "isExactly", "(III)Z"⟩ ⟨"PlainOriginModel", "isExactly", "(III)Z"⟩ ∈ UW := uw_p3 (List.mem_of_getElem? (i := 3) rfl)
theorem mw_52 : .selects "PlainOriginModel" ⟨"PlainOriginModel", "takeChunkLine", "()V"⟩ ⟨"PlainOriginModel", "takeChunkLine", "()V"⟩ ∈ UW := uw_p3 (List.mem_of_getElem? (i := 4) rfl)
theorem mw_53 : .selects "PlainOriginModel" ⟨"PlainOriginModel", "endHead", "()V"⟩ ⟨"PlainOriginModel", "endHead", "()V"⟩ ∈ UW := uw_p3 (List.mem_of_getElem? (i := 5) rfl)
theorem mw_54 : .selects "PlainOriginModel" ⟨"PlainOriginModel", "checkHost", "()V"⟩ ⟨"PlainOriginModel", "checkHost", "()V"⟩ ∈ UW := uw_p3 (List.mem_of_getElem? (i := 6) rfl)
theorem mw_55 : .selects "PlainOriginModel" ⟨"PlainOriginModel", "checkCoding", "()V"⟩ ⟨"PlainOriginModel", "checkCoding", "()V"⟩ ∈ UW := uw_p3 (List.mem_of_getElem? (i := 7) rfl)
theorem mw_56 : .selects "PlainOriginModel" ⟨"PlainOriginModel", "checkLength", "()V"⟩ ⟨"PlainOriginModel", "checkLength", "()V"⟩ ∈ UW := uw_p3 (List.mem_of_getElem? (i := 8) rfl)
theorem mw_57 : .selects "PlainOriginModel" ⟨"PlainOriginModel", "has", "(II)Z"⟩ ⟨"PlainOriginModel", "has", "(II)Z"⟩ ∈ UW := uw_p3 (List.mem_of_getElem? (i := 9) rfl)
theorem mw_58 : .selects "PlainOriginModel" ⟨"PlainOriginModel", "takeField", "()V"⟩ ⟨"PlainOriginModel", "takeField", "()V"⟩ ∈ UW := uw_p3 (List.mem_of_getElem? (i := 10) rfl)
theorem mw_59 : .initialized "PlainOriginLaw" ∈ UW := uw_0_0 (List.mem_of_getElem? (i := 0) rfl) rfl
theorem mw_60 : .initialized "PlainOrigin" ∈ UW := uw_0_0 (List.mem_of_getElem? (i := 1) rfl) rfl
theorem mw_61 : .initialized "PlainOrigin$Site" ∈ UW := uw_0_0 (List.mem_of_getElem? (i := 2) rfl) rfl
theorem mw_62 : .initialized "PlainOrigin$Resource" ∈ UW := uw_0_0 (List.mem_of_getElem? (i := 3) rfl) rfl
theorem mw_63 : .initialized "PlainOrigin$Bytes" ∈ UW := uw_0_0 (List.mem_of_getElem? (i := 4) rfl) rfl
theorem mw_64 : .initialized "PlainOrigin$Reader" ∈ UW := uw_0_0 (List.mem_of_getElem? (i := 5) rfl) rfl
theorem mw_65 : .initialized "PlainOrigin$Request" ∈ UW := uw_0_0 (List.mem_of_getElem? (i := 6) rfl) rfl
theorem mw_66 : .initialized "PlainOrigin$Fields" ∈ UW := uw_0_0 (List.mem_of_getElem? (i := 7) rfl) rfl
theorem mw_67 : .initialized "PlainOrigin$Answer" ∈ UW := uw_0_0 (List.mem_of_getElem? (i := 8) rfl) rfl
theorem mw_68 : .initialized "PlainOrigin$Range" ∈ UW := uw_0_0 (List.mem_of_getElem? (i := 9) rfl) rfl
theorem mw_69 : .initialized "PlainOrigin$Outbox" ∈ UW := uw_0_0 (List.mem_of_getElem? (i := 10) rfl) rfl
theorem mw_70 : .initialized "PlainOriginModel" ∈ UW := uw_0_0 (List.mem_of_getElem? (i := 11) rfl) rfl
theorem mw_71 : .initialized "java/lang/Throwable" ∈ UW := uw_0_0 (List.mem_of_getElem? (i := 12) rfl) rfl
theorem mw_72 : .initialized "java/lang/Exception" ∈ UW := uw_0_0 (List.mem_of_getElem? (i := 13) rfl) rfl
theorem mw_73 : .initialized "java/lang/RuntimeException" ∈ UW := uw_0_0 (List.mem_of_getElem? (i := 14) rfl) rfl
theorem mw_74 : .initialized "java/lang/IllegalArgumentException" ∈ UW := uw_0_0 (List.mem_of_getElem? (i := 15) rfl) rfl
theorem mw_75 : .initialized "PlainOrigin$Text" ∈ UW := uw_0_1 (List.mem_of_getElem? (i := 0) rfl) rfl
theorem mw_76 : .initialized "java/lang/String" ∈ UW := uw_0_1 (List.mem_of_getElem? (i := 1) rfl) rfl
theorem mw_77 : .initialized "java/lang/StringLatin1" ∈ UW := uw_0_1 (List.mem_of_getElem? (i := 2) rfl) rfl
theorem mw_78 : .initialized "java/lang/Math" ∈ UW := uw_0_1 (List.mem_of_getElem? (i := 3) rfl) rfl
theorem mw_79 : .initialized "java/lang/StringUTF16" ∈ UW := uw_0_1 (List.mem_of_getElem? (i := 4) rfl) rfl
theorem mw_80 : .initialized "jdk/internal/util/Preconditions" ∈ UW := uw_0_1 (List.mem_of_getElem? (i := 5) rfl) rfl
theorem mw_81 : .initialized "java/lang/Character" ∈ UW := uw_0_1 (List.mem_of_getElem? (i := 6) rfl) rfl
theorem mw_82 : .initialized "java/lang/Enum" ∈ UW := uw_0_1 (List.mem_of_getElem? (i := 7) rfl) rfl
theorem mw_83 : .initialized "PlainOrigin$Method" ∈ UW := uw_0_1 (List.mem_of_getElem? (i := 8) rfl) rfl
theorem mw_84 : .initialized "java/lang/IndexOutOfBoundsException" ∈ UW := uw_0_1 (List.mem_of_getElem? (i := 9) rfl) rfl
theorem mw_85 : .initialized "java/util/NoSuchElementException" ∈ UW := uw_0_1 (List.mem_of_getElem? (i := 10) rfl) rfl
theorem mw_86 : .classLink "PlainOriginLaw" 8 "PlainOrigin" ∈ UW := uw_0_1 (List.mem_of_getElem? (i := 11) rfl) rfl
theorem mw_87 : .instantiable "PlainOrigin" 5 ∈ UW := uw_0_1 (List.mem_of_getElem? (i := 12) rfl) rfl
theorem mw_88 : .methodLink "PlainOriginLaw" 34 ⟨"PlainOrigin", "<init>", "()V"⟩ ∈ UW := uw_0_1 (List.mem_of_getElem? (i := 13) rfl) rfl
theorem mw_89 : .instanceMethod ⟨"PlainOrigin", "<init>", "()V"⟩ ∈ UW := uw_0_1 (List.mem_of_getElem? (i := 14) rfl) rfl
theorem mw_90 : .code ⟨"PlainOrigin", "<init>", "()V"⟩ prog_1_method_1_code 1 none ∈ UW := uw_0_1 (List.mem_of_getElem? (i := 15) rfl) rfl
theorem mw_91 : .methodLink "PlainOrigin" 1 ⟨"java/lang/Object", "<init>", "()V"⟩ ∈ UW := uw_0_2 (List.mem_of_getElem? (i := 0) rfl) rfl
theorem mw_92 : .instanceMethod ⟨"java/lang/Object", "<init>", "()V"⟩ ∈ UW := uw_0_2 (List.mem_of_getElem? (i := 1) rfl) rfl
theorem mw_93 : .code ⟨"java/lang/Object", "<init>", "()V"⟩ object_method_1_code 1 none ∈ UW := uw_0_2 (List.mem_of_getElem? (i := 2) rfl) rfl
theorem mw_94 : .classLink "PlainOrigin" 7 "PlainOrigin$Site" ∈ UW := uw_0_2 (List.mem_of_getElem? (i := 3) rfl) rfl
theorem mw_95 : .instantiable "PlainOrigin$Site" 2 ∈ UW := uw_0_2 (List.mem_of_getElem? (i := 4) rfl) rfl
theorem mw_96 : .methodLink "PlainOrigin" 9 ⟨"PlainOrigin$Site", "<init>", "()V"⟩ ∈ UW := uw_0_2 (List.mem_of_getElem? (i := 5) rfl) rfl
theorem mw_97 : .instanceMethod ⟨"PlainOrigin$Site", "<init>", "()V"⟩ ∈ UW := uw_0_2 (List.mem_of_getElem? (i := 6) rfl) rfl
theorem mw_98 : .code ⟨"PlainOrigin$Site", "<init>", "()V"⟩ prog_11_method_1_code 2 none ∈ UW := uw_0_2 (List.mem_of_getElem? (i := 7) rfl) rfl
theorem mw_99 : .methodLink "PlainOrigin$Site" 3 ⟨"java/lang/Object", "<init>", "()V"⟩ ∈ UW := uw_0_2 (List.mem_of_getElem? (i := 8) rfl) rfl
theorem mw_100 : .classLink "PlainOrigin$Site" 9 "PlainOrigin$Resource" ∈ UW := uw_0_2 (List.mem_of_getElem? (i := 9) rfl) rfl
theorem mw_102 : .instantiable "PlainOrigin$Resource" 2 ∈ UW := uw_0_2 (List.mem_of_getElem? (i := 11) rfl) rfl
theorem mw_103 : .methodLink "PlainOrigin$Site" 17 ⟨"PlainOrigin$Resource", "<init>", "()V"⟩ ∈ UW := uw_0_2 (List.mem_of_getElem? (i := 12) rfl) rfl
theorem mw_104 : .instanceMethod ⟨"PlainOrigin$Resource", "<init>", "()V"⟩ ∈ UW := uw_0_2 (List.mem_of_getElem? (i := 13) rfl) rfl
theorem mw_105 : .code ⟨"PlainOrigin$Resource", "<init>", "()V"⟩ prog_10_method_1_code 1 none ∈ UW := uw_0_2 (List.mem_of_getElem? (i := 14) rfl) rfl
theorem mw_106 : .methodLink "PlainOrigin$Resource" 3 ⟨"java/lang/Object", "<init>", "()V"⟩ ∈ UW := uw_0_2 (List.mem_of_getElem? (i := 15) rfl) rfl
theorem mw_107 : .classLink "PlainOrigin$Resource" 9 "PlainOrigin$Bytes" ∈ UW := uw_0_3 (List.mem_of_getElem? (i := 0) rfl) rfl
theorem mw_108 : .instantiable "PlainOrigin$Bytes" 2 ∈ UW := uw_0_3 (List.mem_of_getElem? (i := 1) rfl) rfl
theorem mw_109 : .methodLink "PlainOrigin$Resource" 11 ⟨"PlainOrigin$Bytes", "<init>", "(I)V"⟩ ∈ UW := uw_0_3 (List.mem_of_getElem? (i := 2) rfl) rfl
theorem mw_110 : .instanceMethod ⟨"PlainOrigin$Bytes", "<init>", "(I)V"⟩ ∈ UW := uw_0_3 (List.mem_of_getElem? (i := 3) rfl) rfl
theorem mw_111 : .code ⟨"PlainOrigin$Bytes", "<init>", "(I)V"⟩ prog_3_method_1_code 2 none ∈ UW := uw_0_3 (List.mem_of_getElem? (i := 4) rfl) rfl
theorem mw_112 : .methodLink "PlainOrigin$Bytes" 3 ⟨"java/lang/Object", "<init>", "()V"⟩ ∈ UW := uw_0_3 (List.mem_of_getElem? (i := 5) rfl) rfl
theorem mw_113 : .fieldLink "PlainOrigin$Bytes" 9 "PlainOrigin$Bytes" "cells" "[I" ∈ UW := uw_0_3 (List.mem_of_getElem? (i := 6) rfl) rfl
theorem mw_114 : .fieldLink "PlainOrigin$Bytes" 15 "PlainOrigin$Bytes" "count" "I" ∈ UW := uw_0_3 (List.mem_of_getElem? (i := 7) rfl) rfl
theorem mw_122 : .laysFinal "PlainOrigin$Bytes" "PlainOrigin$Bytes" "cells" "[I" ∈ UW := uw_0_3 (List.mem_of_getElem? (i := 15) rfl) rfl
theorem mw_124 : .lays "PlainOrigin$Bytes" "PlainOrigin$Bytes" "count" "I" ∈ UW := uw_0_4 (List.mem_of_getElem? (i := 1) rfl) rfl
theorem mw_127 : .arrayClass .int ∈ UW := uw_0_4 (List.mem_of_getElem? (i := 4) rfl) rfl
theorem mw_128 : .fieldLink "PlainOrigin$Resource" 14 "PlainOrigin$Resource" "content" "LPlainOrigin$Bytes;" ∈ UW := uw_0_4 (List.mem_of_getElem? (i := 5) rfl) rfl
theorem mw_132 : .fieldLink "PlainOrigin$Resource" 20 "PlainOrigin$Resource" "tag" "I" ∈ UW := uw_0_4 (List.mem_of_getElem? (i := 9) rfl) rfl
theorem mw_136 : .laysFinal "PlainOrigin$Resource" "PlainOrigin$Resource" "content" "LPlainOrigin$Bytes;" ∈ UW := uw_0_4 (List.mem_of_getElem? (i := 13) rfl) rfl
theorem mw_138 : .lays "PlainOrigin$Resource" "PlainOrigin$Resource" "tag" "I" ∈ UW := uw_0_4 (List.mem_of_getElem? (i := 15) rfl) rfl
theorem mw_141 : .fieldLink "PlainOrigin$Site" 11 "PlainOrigin$Site" "resources" "[LPlainOrigin$Resource;" ∈ UW := uw_0_5 (List.mem_of_getElem? (i := 2) rfl) rfl
theorem mw_144 : .fieldLink "PlainOrigin$Site" 62 "PlainOrigin$Site" "changeCount" "I" ∈ UW := uw_0_5 (List.mem_of_getElem? (i := 5) rfl) rfl
theorem mw_146 : .laysFinal "PlainOrigin$Site" "PlainOrigin$Site" "resources" "[LPlainOrigin$Resource;" ∈ UW := uw_0_5 (List.mem_of_getElem? (i := 7) rfl) rfl
theorem mw_148 : .lays "PlainOrigin$Site" "PlainOrigin$Site" "changeCount" "I" ∈ UW := uw_0_5 (List.mem_of_getElem? (i := 9) rfl) rfl
theorem mw_151 : .classLink "PlainOrigin" 16 "PlainOrigin$Reader" ∈ UW := uw_0_5 (List.mem_of_getElem? (i := 12) rfl) rfl
theorem mw_152 : .instantiable "PlainOrigin$Reader" 6 ∈ UW := uw_0_5 (List.mem_of_getElem? (i := 13) rfl) rfl
theorem mw_153 : .methodLink "PlainOrigin" 18 ⟨"PlainOrigin$Reader", "<init>", "()V"⟩ ∈ UW := uw_0_5 (List.mem_of_getElem? (i := 14) rfl) rfl
theorem mw_154 : .instanceMethod ⟨"PlainOrigin$Reader", "<init>", "()V"⟩ ∈ UW := uw_0_5 (List.mem_of_getElem? (i := 15) rfl) rfl
theorem mw_155 : .code ⟨"PlainOrigin$Reader", "<init>", "()V"⟩ prog_8_method_1_code 1 none ∈ UW := uw_0_6 (List.mem_of_getElem? (i := 0) rfl) rfl
theorem mw_156 : .methodLink "PlainOrigin$Reader" 3 ⟨"java/lang/Object", "<init>", "()V"⟩ ∈ UW := uw_0_6 (List.mem_of_getElem? (i := 1) rfl) rfl
theorem mw_157 : .classLink "PlainOrigin$Reader" 9 "PlainOrigin$Bytes" ∈ UW := uw_0_6 (List.mem_of_getElem? (i := 2) rfl) rfl
theorem mw_158 : .methodLink "PlainOrigin$Reader" 11 ⟨"PlainOrigin$Bytes", "<init>", "(I)V"⟩ ∈ UW := uw_0_6 (List.mem_of_getElem? (i := 3) rfl) rfl
theorem mw_159 : .classLink "PlainOrigin$Reader" 20 "PlainOrigin$Request" ∈ UW := uw_0_6 (List.mem_of_getElem? (i := 4) rfl) rfl
theorem mw_160 : .instantiable "PlainOrigin$Request" 9 ∈ UW := uw_0_6 (List.mem_of_getElem? (i := 5) rfl) rfl
theorem mw_161 : .methodLink "PlainOrigin$Reader" 22 ⟨"PlainOrigin$Request", "<init>", "()V"⟩ ∈ UW := uw_0_6 (List.mem_of_getElem? (i := 6) rfl) rfl
theorem mw_162 : .instanceMethod ⟨"PlainOrigin$Request", "<init>", "()V"⟩ ∈ UW := uw_0_6 (List.mem_of_getElem? (i := 7) rfl) rfl
theorem mw_163 : .code ⟨"PlainOrigin$Request", "<init>", "()V"⟩ prog_9_method_1_code 1 none ∈ UW := uw_0_6 (List.mem_of_getElem? (i := 8) rfl) rfl
theorem mw_164 : .methodLink "PlainOrigin$Request" 3 ⟨"java/lang/Object", "<init>", "()V"⟩ ∈ UW := uw_0_6 (List.mem_of_getElem? (i := 9) rfl) rfl
theorem mw_165 : .classLink "PlainOrigin$Request" 9 "PlainOrigin$Fields" ∈ UW := uw_0_6 (List.mem_of_getElem? (i := 10) rfl) rfl
theorem mw_166 : .instantiable "PlainOrigin$Fields" 9 ∈ UW := uw_0_6 (List.mem_of_getElem? (i := 11) rfl) rfl
theorem mw_167 : .methodLink "PlainOrigin$Request" 11 ⟨"PlainOrigin$Fields", "<init>", "()V"⟩ ∈ UW := uw_0_6 (List.mem_of_getElem? (i := 12) rfl) rfl
theorem mw_168 : .instanceMethod ⟨"PlainOrigin$Fields", "<init>", "()V"⟩ ∈ UW := uw_0_6 (List.mem_of_getElem? (i := 13) rfl) rfl
theorem mw_169 : .code ⟨"PlainOrigin$Fields", "<init>", "()V"⟩ prog_4_method_1_code 1 none ∈ UW := uw_0_6 (List.mem_of_getElem? (i := 14) rfl) rfl
theorem mw_170 : .methodLink "PlainOrigin$Fields" 3 ⟨"java/lang/Object", "<init>", "()V"⟩ ∈ UW := uw_0_6 (List.mem_of_getElem? (i := 15) rfl) rfl
theorem mw_171 : .classLink "PlainOrigin$Fields" 9 "PlainOrigin$Bytes" ∈ UW := uw_0_7 (List.mem_of_getElem? (i := 0) rfl) rfl
theorem mw_172 : .methodLink "PlainOrigin$Fields" 11 ⟨"PlainOrigin$Bytes", "<init>", "(I)V"⟩ ∈ UW := uw_0_7 (List.mem_of_getElem? (i := 1) rfl) rfl
theorem mw_173 : .fieldLink "PlainOrigin$Fields" 14 "PlainOrigin$Fields" "text" "LPlainOrigin$Bytes;" ∈ UW := uw_0_7 (List.mem_of_getElem? (i := 2) rfl) rfl
theorem mw_176 : .fieldLink "PlainOrigin$Fields" 20 "PlainOrigin$Fields" "nameFrom" "[I" ∈ UW := uw_0_7 (List.mem_of_getElem? (i := 5) rfl) rfl
theorem mw_177 : .fieldLink "PlainOrigin$Fields" 24 "PlainOrigin$Fields" "nameTo" "[I" ∈ UW := uw_0_7 (List.mem_of_getElem? (i := 6) rfl) rfl
theorem mw_178 : .fieldLink "PlainOrigin$Fields" 27 "PlainOrigin$Fields" "valueFrom" "[I" ∈ UW := uw_0_7 (List.mem_of_getElem? (i := 7) rfl) rfl
theorem mw_181 : .fieldLink "PlainOrigin$Fields" 30 "PlainOrigin$Fields" "valueTo" "[I" ∈ UW := uw_0_7 (List.mem_of_getElem? (i := 10) rfl) rfl
theorem mw_184 : .fieldLink "PlainOrigin$Fields" 42 "PlainOrigin$Fields" "fieldCount" "I" ∈ UW := uw_0_7 (List.mem_of_getElem? (i := 13) rfl) rfl
theorem mw_185 : .fieldLink "PlainOrigin$Fields" 33 "PlainOrigin$Fields" "elementFrom" "[I" ∈ UW := uw_0_7 (List.mem_of_getElem? (i := 14) rfl) rfl
theorem mw_186 : .fieldLink "PlainOrigin$Fields" 36 "PlainOrigin$Fields" "elementTo" "[I" ∈ UW := uw_0_7 (List.mem_of_getElem? (i := 15) rfl) rfl
theorem mw_187 : .fieldLink "PlainOrigin$Fields" 46 "PlainOrigin$Fields" "elementCount" "I" ∈ UW := uw_0_8 (List.mem_of_getElem? (i := 0) rfl) rfl
theorem mw_188 : .laysFinal "PlainOrigin$Fields" "PlainOrigin$Fields" "text" "LPlainOrigin$Bytes;" ∈ UW := uw_0_8 (List.mem_of_getElem? (i := 1) rfl) rfl
theorem mw_190 : .laysFinal "PlainOrigin$Fields" "PlainOrigin$Fields" "nameFrom" "[I" ∈ UW := uw_0_8 (List.mem_of_getElem? (i := 3) rfl) rfl
theorem mw_192 : .laysFinal "PlainOrigin$Fields" "PlainOrigin$Fields" "nameTo" "[I" ∈ UW := uw_0_8 (List.mem_of_getElem? (i := 5) rfl) rfl
theorem mw_194 : .laysFinal "PlainOrigin$Fields" "PlainOrigin$Fields" "valueFrom" "[I" ∈ UW := uw_0_8 (List.mem_of_getElem? (i := 7) rfl) rfl
theorem mw_196 : .laysFinal "PlainOrigin$Fields" "PlainOrigin$Fields" "valueTo" "[I" ∈ UW := uw_0_8 (List.mem_of_getElem? (i := 9) rfl) rfl
theorem mw_198 : .lays "PlainOrigin$Fields" "PlainOrigin$Fields" "fieldCount" "I" ∈ UW := uw_0_8 (List.mem_of_getElem? (i := 11) rfl) rfl
theorem mw_200 : .laysFinal "PlainOrigin$Fields" "PlainOrigin$Fields" "elementFrom" "[I" ∈ UW := uw_0_8 (List.mem_of_getElem? (i := 13) rfl) rfl
theorem mw_202 : .laysFinal "PlainOrigin$Fields" "PlainOrigin$Fields" "elementTo" "[I" ∈ UW := uw_0_8 (List.mem_of_getElem? (i := 15) rfl) rfl
theorem mw_204 : .lays "PlainOrigin$Fields" "PlainOrigin$Fields" "elementCount" "I" ∈ UW := uw_0_9 (List.mem_of_getElem? (i := 1) rfl) rfl
theorem mw_207 : .classLink "PlainOrigin$Request" 18 "PlainOrigin$Bytes" ∈ UW := uw_0_9 (List.mem_of_getElem? (i := 4) rfl) rfl
theorem mw_208 : .methodLink "PlainOrigin$Request" 20 ⟨"PlainOrigin$Bytes", "<init>", "(I)V"⟩ ∈ UW := uw_0_9 (List.mem_of_getElem? (i := 5) rfl) rfl
theorem mw_209 : .fieldLink "PlainOrigin$Request" 12 "PlainOrigin$Request" "fields" "LPlainOrigin$Fields;" ∈ UW := uw_0_9 (List.mem_of_getElem? (i := 6) rfl) rfl
theorem mw_213 : .fieldLink "PlainOrigin$Request" 23 "PlainOrigin$Request" "path" "LPlainOrigin$Bytes;" ∈ UW := uw_0_9 (List.mem_of_getElem? (i := 10) rfl) rfl
theorem mw_215 : .fieldLink "PlainOrigin$Request" 27 "PlainOrigin$Request" "body" "LPlainOrigin$Bytes;" ∈ UW := uw_0_9 (List.mem_of_getElem? (i := 12) rfl) rfl
theorem mw_218 : .fieldLink "PlainOrigin$Request" 34 "PlainOrigin$Request" "method" "LPlainOrigin$Method;" ∈ UW := uw_0_9 (List.mem_of_getElem? (i := 15) rfl) rfl
theorem mw_220 : .fieldLink "PlainOrigin$Request" 38 "PlainOrigin$Request" "lastDigit" "I" ∈ UW := uw_0_10 (List.mem_of_getElem? (i := 1) rfl) rfl
theorem mw_221 : .fieldLink "PlainOrigin$Request" 42 "PlainOrigin$Request" "isChunked" "Z" ∈ UW := uw_0_10 (List.mem_of_getElem? (i := 2) rfl) rfl
theorem mw_223 : .fieldLink "PlainOrigin$Request" 46 "PlainOrigin$Request" "bodyLength" "I" ∈ UW := uw_0_10 (List.mem_of_getElem? (i := 4) rfl) rfl
theorem mw_225 : .fieldLink "PlainOrigin$Request" 49 "PlainOrigin$Request" "awaitsContinue" "Z" ∈ UW := uw_0_10 (List.mem_of_getElem? (i := 6) rfl) rfl
theorem mw_227 : .fieldLink "PlainOrigin$Request" 52 "PlainOrigin$Request" "isLast" "Z" ∈ UW := uw_0_10 (List.mem_of_getElem? (i := 8) rfl) rfl
theorem mw_229 : .laysFinal "PlainOrigin$Request" "PlainOrigin$Request" "fields" "LPlainOrigin$Fields;" ∈ UW := uw_0_10 (List.mem_of_getElem? (i := 10) rfl) rfl
theorem mw_231 : .laysFinal "PlainOrigin$Request" "PlainOrigin$Request" "path" "LPlainOrigin$Bytes;" ∈ UW := uw_0_10 (List.mem_of_getElem? (i := 12) rfl) rfl
theorem mw_233 : .laysFinal "PlainOrigin$Request" "PlainOrigin$Request" "body" "LPlainOrigin$Bytes;" ∈ UW := uw_0_10 (List.mem_of_getElem? (i := 14) rfl) rfl
theorem mw_235 : .lays "PlainOrigin$Request" "PlainOrigin$Request" "method" "LPlainOrigin$Method;" ∈ UW := uw_0_11 (List.mem_of_getElem? (i := 0) rfl) rfl
theorem mw_237 : .lays "PlainOrigin$Request" "PlainOrigin$Request" "lastDigit" "I" ∈ UW := uw_0_11 (List.mem_of_getElem? (i := 2) rfl) rfl
theorem mw_239 : .lays "PlainOrigin$Request" "PlainOrigin$Request" "isChunked" "Z" ∈ UW := uw_0_11 (List.mem_of_getElem? (i := 4) rfl) rfl
theorem mw_241 : .lays "PlainOrigin$Request" "PlainOrigin$Request" "bodyLength" "I" ∈ UW := uw_0_11 (List.mem_of_getElem? (i := 6) rfl) rfl
theorem mw_243 : .lays "PlainOrigin$Request" "PlainOrigin$Request" "awaitsContinue" "Z" ∈ UW := uw_0_11 (List.mem_of_getElem? (i := 8) rfl) rfl
theorem mw_245 : .lays "PlainOrigin$Request" "PlainOrigin$Request" "isLast" "Z" ∈ UW := uw_0_11 (List.mem_of_getElem? (i := 10) rfl) rfl
theorem mw_248 : .fieldLink "PlainOrigin$Reader" 14 "PlainOrigin$Reader" "line" "LPlainOrigin$Bytes;" ∈ UW := uw_0_11 (List.mem_of_getElem? (i := 13) rfl) rfl
theorem mw_249 : .fieldLink "PlainOrigin$Reader" 23 "PlainOrigin$Reader" "request" "LPlainOrigin$Request;" ∈ UW := uw_0_11 (List.mem_of_getElem? (i := 14) rfl) rfl
theorem mw_251 : .fieldLink "PlainOrigin$Reader" 27 "PlainOrigin$Reader" "stage" "I" ∈ UW := uw_0_12 (List.mem_of_getElem? (i := 0) rfl) rfl
theorem mw_253 : .fieldLink "PlainOrigin$Reader" 35 "PlainOrigin$Reader" "afterCr" "Z" ∈ UW := uw_0_12 (List.mem_of_getElem? (i := 2) rfl) rfl
theorem mw_254 : .fieldLink "PlainOrigin$Reader" 39 "PlainOrigin$Reader" "chunkLeft" "I" ∈ UW := uw_0_12 (List.mem_of_getElem? (i := 3) rfl) rfl
theorem mw_255 : .fieldLink "PlainOrigin$Reader" 42 "PlainOrigin$Reader" "trailers" "I" ∈ UW := uw_0_12 (List.mem_of_getElem? (i := 4) rfl) rfl
theorem mw_256 : .laysFinal "PlainOrigin$Reader" "PlainOrigin$Reader" "line" "LPlainOrigin$Bytes;" ∈ UW := uw_0_12 (List.mem_of_getElem? (i := 5) rfl) rfl
theorem mw_258 : .laysFinal "PlainOrigin$Reader" "PlainOrigin$Reader" "request" "LPlainOrigin$Request;" ∈ UW := uw_0_12 (List.mem_of_getElem? (i := 7) rfl) rfl
theorem mw_260 : .lays "PlainOrigin$Reader" "PlainOrigin$Reader" "stage" "I" ∈ UW := uw_0_12 (List.mem_of_getElem? (i := 9) rfl) rfl
theorem mw_262 : .lays "PlainOrigin$Reader" "PlainOrigin$Reader" "afterCr" "Z" ∈ UW := uw_0_12 (List.mem_of_getElem? (i := 11) rfl) rfl
theorem mw_264 : .lays "PlainOrigin$Reader" "PlainOrigin$Reader" "chunkLeft" "I" ∈ UW := uw_0_12 (List.mem_of_getElem? (i := 13) rfl) rfl
theorem mw_266 : .lays "PlainOrigin$Reader" "PlainOrigin$Reader" "trailers" "I" ∈ UW := uw_0_12 (List.mem_of_getElem? (i := 15) rfl) rfl
theorem mw_269 : .classLink "PlainOrigin" 23 "PlainOrigin$Answer" ∈ UW := uw_0_13 (List.mem_of_getElem? (i := 2) rfl) rfl
theorem mw_270 : .instantiable "PlainOrigin$Answer" 12 ∈ UW := uw_0_13 (List.mem_of_getElem? (i := 3) rfl) rfl
theorem mw_271 : .methodLink "PlainOrigin" 25 ⟨"PlainOrigin$Answer", "<init>", "()V"⟩ ∈ UW := uw_0_13 (List.mem_of_getElem? (i := 4) rfl) rfl
theorem mw_272 : .instanceMethod ⟨"PlainOrigin$Answer", "<init>", "()V"⟩ ∈ UW := uw_0_13 (List.mem_of_getElem? (i := 5) rfl) rfl
theorem mw_273 : .code ⟨"PlainOrigin$Answer", "<init>", "()V"⟩ prog_2_method_1_code 1 none ∈ UW := uw_0_13 (List.mem_of_getElem? (i := 6) rfl) rfl
theorem mw_274 : .methodLink "PlainOrigin$Answer" 3 ⟨"java/lang/Object", "<init>", "()V"⟩ ∈ UW := uw_0_13 (List.mem_of_getElem? (i := 7) rfl) rfl
theorem mw_275 : .classLink "PlainOrigin$Answer" 9 "PlainOrigin$Range" ∈ UW := uw_0_13 (List.mem_of_getElem? (i := 8) rfl) rfl
theorem mw_276 : .instantiable "PlainOrigin$Range" 2 ∈ UW := uw_0_13 (List.mem_of_getElem? (i := 9) rfl) rfl
theorem mw_278 : .instanceMethod ⟨"PlainOrigin$Range", "<init>", "()V"⟩ ∈ UW := uw_0_13 (List.mem_of_getElem? (i := 11) rfl) rfl
theorem mw_279 : .code ⟨"PlainOrigin$Range", "<init>", "()V"⟩ prog_7_method_1_code 1 none ∈ UW := uw_0_13 (List.mem_of_getElem? (i := 12) rfl) rfl
theorem mw_280 : .methodLink "PlainOrigin$Range" 3 ⟨"java/lang/Object", "<init>", "()V"⟩ ∈ UW := uw_0_13 (List.mem_of_getElem? (i := 13) rfl) rfl
theorem mw_281 : .fieldLink "PlainOrigin$Range" 47 "PlainOrigin$Range" "first" "I" ∈ UW := uw_0_13 (List.mem_of_getElem? (i := 14) rfl) rfl
theorem mw_283 : .fieldLink "PlainOrigin$Range" 53 "PlainOrigin$Range" "last" "I" ∈ UW := uw_0_14 (List.mem_of_getElem? (i := 0) rfl) rfl
theorem mw_285 : .lays "PlainOrigin$Range" "PlainOrigin$Range" "first" "I" ∈ UW := uw_0_14 (List.mem_of_getElem? (i := 2) rfl) rfl
theorem mw_287 : .lays "PlainOrigin$Range" "PlainOrigin$Range" "last" "I" ∈ UW := uw_0_14 (List.mem_of_getElem? (i := 4) rfl) rfl
theorem mw_290 : .classLink "PlainOrigin$Answer" 18 "PlainOrigin$Bytes" ∈ UW := uw_0_14 (List.mem_of_getElem? (i := 7) rfl) rfl
theorem mw_291 : .methodLink "PlainOrigin$Answer" 20 ⟨"PlainOrigin$Bytes", "<init>", "(I)V"⟩ ∈ UW := uw_0_14 (List.mem_of_getElem? (i := 8) rfl) rfl
theorem mw_292 : .fieldLink "PlainOrigin$Answer" 12 "PlainOrigin$Answer" "range" "LPlainOrigin$Range;" ∈ UW := uw_0_14 (List.mem_of_getElem? (i := 9) rfl) rfl
theorem mw_293 : .fieldLink "PlainOrigin$Answer" 23 "PlainOrigin$Answer" "letters" "LPlainOrigin$Bytes;" ∈ UW := uw_0_14 (List.mem_of_getElem? (i := 10) rfl) rfl
theorem mw_294 : .fieldLink "PlainOrigin$Answer" 30 "PlainOrigin$Answer" "number" "I" ∈ UW := uw_0_14 (List.mem_of_getElem? (i := 11) rfl) rfl
theorem mw_297 : .fieldLink "PlainOrigin$Answer" 34 "PlainOrigin$Answer" "tag" "I" ∈ UW := uw_0_14 (List.mem_of_getElem? (i := 14) rfl) rfl
theorem mw_299 : .fieldLink "PlainOrigin$Answer" 37 "PlainOrigin$Answer" "allows" "Z" ∈ UW := uw_1_0 (List.mem_of_getElem? (i := 0) rfl) rfl
theorem mw_305 : .fieldLink "PlainOrigin$Answer" 41 "PlainOrigin$Answer" "toldLength" "I" ∈ UW := uw_1_0 (List.mem_of_getElem? (i := 6) rfl) rfl
theorem mw_307 : .fieldLink "PlainOrigin$Answer" 27 "PlainOrigin$Answer" "body" "LPlainOrigin$Bytes;" ∈ UW := uw_1_0 (List.mem_of_getElem? (i := 8) rfl) rfl
theorem mw_309 : .fieldLink "PlainOrigin$Answer" 44 "PlainOrigin$Answer" "from" "I" ∈ UW := uw_1_0 (List.mem_of_getElem? (i := 10) rfl) rfl
theorem mw_311 : .fieldLink "PlainOrigin$Answer" 47 "PlainOrigin$Answer" "to" "I" ∈ UW := uw_1_0 (List.mem_of_getElem? (i := 12) rfl) rfl
theorem mw_313 : .fieldLink "PlainOrigin$Answer" 50 "PlainOrigin$Answer" "wholeLength" "I" ∈ UW := uw_1_0 (List.mem_of_getElem? (i := 14) rfl) rfl
theorem mw_315 : .laysFinal "PlainOrigin$Answer" "PlainOrigin$Answer" "range" "LPlainOrigin$Range;" ∈ UW := uw_1_1 (List.mem_of_getElem? (i := 0) rfl) rfl
theorem mw_317 : .laysFinal "PlainOrigin$Answer" "PlainOrigin$Answer" "letters" "LPlainOrigin$Bytes;" ∈ UW := uw_1_1 (List.mem_of_getElem? (i := 2) rfl) rfl
theorem mw_319 : .lays "PlainOrigin$Answer" "PlainOrigin$Answer" "number" "I" ∈ UW := uw_1_1 (List.mem_of_getElem? (i := 4) rfl) rfl
theorem mw_321 : .lays "PlainOrigin$Answer" "PlainOrigin$Answer" "tag" "I" ∈ UW := uw_1_1 (List.mem_of_getElem? (i := 6) rfl) rfl
theorem mw_323 : .lays "PlainOrigin$Answer" "PlainOrigin$Answer" "allows" "Z" ∈ UW := uw_1_1 (List.mem_of_getElem? (i := 8) rfl) rfl
theorem mw_325 : .lays "PlainOrigin$Answer" "PlainOrigin$Answer" "closes" "Z" ∈ UW := uw_1_1 (List.mem_of_getElem? (i := 10) rfl) rfl
theorem mw_327 : .lays "PlainOrigin$Answer" "PlainOrigin$Answer" "keepsAlive" "Z" ∈ UW := uw_1_1 (List.mem_of_getElem? (i := 12) rfl) rfl
theorem mw_329 : .lays "PlainOrigin$Answer" "PlainOrigin$Answer" "toldLength" "I" ∈ UW := uw_1_1 (List.mem_of_getElem? (i := 14) rfl) rfl
theorem mw_331 : .lays "PlainOrigin$Answer" "PlainOrigin$Answer" "body" "LPlainOrigin$Bytes;" ∈ UW := uw_1_2 (List.mem_of_getElem? (i := 0) rfl) rfl
theorem mw_333 : .lays "PlainOrigin$Answer" "PlainOrigin$Answer" "from" "I" ∈ UW := uw_1_2 (List.mem_of_getElem? (i := 2) rfl) rfl
theorem mw_335 : .lays "PlainOrigin$Answer" "PlainOrigin$Answer" "to" "I" ∈ UW := uw_1_2 (List.mem_of_getElem? (i := 4) rfl) rfl
theorem mw_337 : .lays "PlainOrigin$Answer" "PlainOrigin$Answer" "wholeLength" "I" ∈ UW := uw_1_2 (List.mem_of_getElem? (i := 6) rfl) rfl
theorem mw_340 : .classLink "PlainOrigin" 30 "PlainOrigin$Outbox" ∈ UW := uw_1_2 (List.mem_of_getElem? (i := 9) rfl) rfl
theorem mw_341 : .instantiable "PlainOrigin$Outbox" 2 ∈ UW := uw_1_2 (List.mem_of_getElem? (i := 10) rfl) rfl
theorem mw_342 : .methodLink "PlainOrigin" 32 ⟨"PlainOrigin$Outbox", "<init>", "()V"⟩ ∈ UW := uw_1_2 (List.mem_of_getElem? (i := 11) rfl) rfl
theorem mw_343 : .instanceMethod ⟨"PlainOrigin$Outbox", "<init>", "()V"⟩ ∈ UW := uw_1_2 (List.mem_of_getElem? (i := 12) rfl) rfl
theorem mw_344 : .code ⟨"PlainOrigin$Outbox", "<init>", "()V"⟩ prog_6_method_1_code 1 none ∈ UW := uw_1_2 (List.mem_of_getElem? (i := 13) rfl) rfl
theorem mw_345 : .methodLink "PlainOrigin$Outbox" 3 ⟨"java/lang/Object", "<init>", "()V"⟩ ∈ UW := uw_1_2 (List.mem_of_getElem? (i := 14) rfl) rfl
theorem mw_346 : .classLink "PlainOrigin$Outbox" 9 "PlainOrigin$Bytes" ∈ UW := uw_1_2 (List.mem_of_getElem? (i := 15) rfl) rfl
theorem mw_347 : .methodLink "PlainOrigin$Outbox" 11 ⟨"PlainOrigin$Bytes", "<init>", "(I)V"⟩ ∈ UW := uw_1_3 (List.mem_of_getElem? (i := 0) rfl) rfl
theorem mw_348 : .fieldLink "PlainOrigin$Outbox" 14 "PlainOrigin$Outbox" "kept" "LPlainOrigin$Bytes;" ∈ UW := uw_1_3 (List.mem_of_getElem? (i := 1) rfl) rfl
theorem mw_350 : .fieldLink "PlainOrigin$Outbox" 23 "PlainOrigin$Outbox" "total" "I" ∈ UW := uw_1_3 (List.mem_of_getElem? (i := 3) rfl) rfl
theorem mw_352 : .laysFinal "PlainOrigin$Outbox" "PlainOrigin$Outbox" "kept" "LPlainOrigin$Bytes;" ∈ UW := uw_1_3 (List.mem_of_getElem? (i := 5) rfl) rfl
theorem mw_354 : .lays "PlainOrigin$Outbox" "PlainOrigin$Outbox" "total" "I" ∈ UW := uw_1_3 (List.mem_of_getElem? (i := 7) rfl) rfl
theorem mw_357 : .fieldLink "PlainOrigin" 10 "PlainOrigin" "site" "LPlainOrigin$Site;" ∈ UW := uw_1_3 (List.mem_of_getElem? (i := 10) rfl) rfl
theorem mw_358 : .fieldLink "PlainOrigin" 19 "PlainOrigin" "reader" "LPlainOrigin$Reader;" ∈ UW := uw_1_3 (List.mem_of_getElem? (i := 11) rfl) rfl
theorem mw_359 : .fieldLink "PlainOrigin" 26 "PlainOrigin" "answer" "LPlainOrigin$Answer;" ∈ UW := uw_1_3 (List.mem_of_getElem? (i := 12) rfl) rfl
theorem mw_360 : .fieldLink "PlainOrigin" 33 "PlainOrigin" "outbox" "LPlainOrigin$Outbox;" ∈ UW := uw_1_3 (List.mem_of_getElem? (i := 13) rfl) rfl
theorem mw_361 : .fieldLink "PlainOrigin" 37 "PlainOrigin" "latest" "I" ∈ UW := uw_1_3 (List.mem_of_getElem? (i := 14) rfl) rfl
theorem mw_362 : .laysFinal "PlainOrigin" "PlainOrigin" "site" "LPlainOrigin$Site;" ∈ UW := uw_1_3 (List.mem_of_getElem? (i := 15) rfl) rfl
theorem mw_364 : .laysFinal "PlainOrigin" "PlainOrigin" "reader" "LPlainOrigin$Reader;" ∈ UW := uw_1_4 (List.mem_of_getElem? (i := 1) rfl) rfl
theorem mw_366 : .laysFinal "PlainOrigin" "PlainOrigin" "answer" "LPlainOrigin$Answer;" ∈ UW := uw_1_4 (List.mem_of_getElem? (i := 3) rfl) rfl
theorem mw_368 : .laysFinal "PlainOrigin" "PlainOrigin" "outbox" "LPlainOrigin$Outbox;" ∈ UW := uw_1_4 (List.mem_of_getElem? (i := 5) rfl) rfl
theorem mw_370 : .lays "PlainOrigin" "PlainOrigin" "latest" "I" ∈ UW := uw_1_4 (List.mem_of_getElem? (i := 7) rfl) rfl
theorem mw_373 : .methodLink "PlainOriginLaw" 50 ⟨"PlainOrigin", "isOpen", "()Z"⟩ ∈ UW := uw_1_4 (List.mem_of_getElem? (i := 10) rfl) rfl
theorem mw_374 : .instanceMethod ⟨"PlainOrigin", "isOpen", "()Z"⟩ ∈ UW := uw_1_4 (List.mem_of_getElem? (i := 11) rfl) rfl
theorem mw_375 : .selects "PlainOrigin" ⟨"PlainOrigin", "isOpen", "()Z"⟩ ⟨"PlainOrigin", "isOpen", "()Z"⟩ ∈ UW := uw_1_4 (List.mem_of_getElem? (i := 12) rfl) rfl
theorem mw_376 : .code ⟨"PlainOrigin", "isOpen", "()Z"⟩ prog_1_method_3_code 1 (some .boolean) ∈ UW := uw_1_4 (List.mem_of_getElem? (i := 13) rfl) rfl
theorem mw_377 : .methodLink "PlainOriginLaw" 55 ⟨"PlainOrigin", "connect", "()V"⟩ ∈ UW := uw_1_4 (List.mem_of_getElem? (i := 14) rfl) rfl
theorem mw_378 : .instanceMethod ⟨"PlainOrigin", "connect", "()V"⟩ ∈ UW := uw_1_4 (List.mem_of_getElem? (i := 15) rfl) rfl
theorem mw_379 : .selects "PlainOrigin" ⟨"PlainOrigin", "connect", "()V"⟩ ⟨"PlainOrigin", "connect", "()V"⟩ ∈ UW := uw_1_5 (List.mem_of_getElem? (i := 0) rfl) rfl
theorem mw_380 : .code ⟨"PlainOrigin", "connect", "()V"⟩ prog_1_method_4_code 1 none ∈ UW := uw_1_5 (List.mem_of_getElem? (i := 1) rfl) rfl
theorem mw_381 : .methodLink "PlainOrigin" 77 ⟨"PlainOrigin$Reader", "restart", "()V"⟩ ∈ UW := uw_1_5 (List.mem_of_getElem? (i := 2) rfl) rfl
theorem mw_382 : .instanceMethod ⟨"PlainOrigin$Reader", "restart", "()V"⟩ ∈ UW := uw_1_5 (List.mem_of_getElem? (i := 3) rfl) rfl
theorem mw_383 : .selects "PlainOrigin$Reader" ⟨"PlainOrigin$Reader", "restart", "()V"⟩ ⟨"PlainOrigin$Reader", "restart", "()V"⟩ ∈ UW := uw_1_5 (List.mem_of_getElem? (i := 4) rfl) rfl
theorem mw_384 : .code ⟨"PlainOrigin$Reader", "restart", "()V"⟩ prog_8_method_2_code 1 none ∈ UW := uw_1_5 (List.mem_of_getElem? (i := 5) rfl) rfl
theorem mw_385 : .methodLink "PlainOrigin$Reader" 31 ⟨"PlainOrigin$Bytes", "clear", "()V"⟩ ∈ UW := uw_1_5 (List.mem_of_getElem? (i := 6) rfl) rfl
theorem mw_386 : .instanceMethod ⟨"PlainOrigin$Bytes", "clear", "()V"⟩ ∈ UW := uw_1_5 (List.mem_of_getElem? (i := 7) rfl) rfl
theorem mw_387 : .selects "PlainOrigin$Bytes" ⟨"PlainOrigin$Bytes", "clear", "()V"⟩ ⟨"PlainOrigin$Bytes", "clear", "()V"⟩ ∈ UW := uw_1_5 (List.mem_of_getElem? (i := 8) rfl) rfl
theorem mw_388 : .code ⟨"PlainOrigin$Bytes", "clear", "()V"⟩ prog_3_method_2_code 1 none ∈ UW := uw_1_5 (List.mem_of_getElem? (i := 9) rfl) rfl
theorem mw_389 : .methodLink "PlainOrigin$Reader" 34 ⟨"PlainOrigin$Request", "clear", "()V"⟩ ∈ UW := uw_1_5 (List.mem_of_getElem? (i := 10) rfl) rfl
theorem mw_390 : .instanceMethod ⟨"PlainOrigin$Request", "clear", "()V"⟩ ∈ UW := uw_1_5 (List.mem_of_getElem? (i := 11) rfl) rfl
theorem mw_391 : .selects "PlainOrigin$Request" ⟨"PlainOrigin$Request", "clear", "()V"⟩ ⟨"PlainOrigin$Request", "clear", "()V"⟩ ∈ UW := uw_1_5 (List.mem_of_getElem? (i := 12) rfl) rfl
theorem mw_392 : .code ⟨"PlainOrigin$Request", "clear", "()V"⟩ prog_9_method_2_code 1 none ∈ UW := uw_1_5 (List.mem_of_getElem? (i := 13) rfl) rfl
theorem mw_393 : .methodLink "PlainOrigin$Request" 30 ⟨"PlainOrigin$Fields", "clear", "()V"⟩ ∈ UW := uw_1_5 (List.mem_of_getElem? (i := 14) rfl) rfl
theorem mw_394 : .instanceMethod ⟨"PlainOrigin$Fields", "clear", "()V"⟩ ∈ UW := uw_1_5 (List.mem_of_getElem? (i := 15) rfl) rfl
theorem mw_395 : .selects "PlainOrigin$Fields" ⟨"PlainOrigin$Fields", "clear", "()V"⟩ ⟨"PlainOrigin$Fields", "clear", "()V"⟩ ∈ UW := uw_1_6 (List.mem_of_getElem? (i := 0) rfl) rfl
theorem mw_396 : .code ⟨"PlainOrigin$Fields", "clear", "()V"⟩ prog_4_method_2_code 1 none ∈ UW := uw_1_6 (List.mem_of_getElem? (i := 1) rfl) rfl
theorem mw_397 : .methodLink "PlainOrigin$Fields" 39 ⟨"PlainOrigin$Bytes", "clear", "()V"⟩ ∈ UW := uw_1_6 (List.mem_of_getElem? (i := 2) rfl) rfl
theorem mw_398 : .methodLink "PlainOrigin$Request" 33 ⟨"PlainOrigin$Bytes", "clear", "()V"⟩ ∈ UW := uw_1_6 (List.mem_of_getElem? (i := 3) rfl) rfl
theorem mw_399 : .methodLink "PlainOrigin" 80 ⟨"PlainOrigin$Outbox", "empty", "()V"⟩ ∈ UW := uw_1_6 (List.mem_of_getElem? (i := 4) rfl) rfl
theorem mw_400 : .instanceMethod ⟨"PlainOrigin$Outbox", "empty", "()V"⟩ ∈ UW := uw_1_6 (List.mem_of_getElem? (i := 5) rfl) rfl
theorem mw_401 : .selects "PlainOrigin$Outbox" ⟨"PlainOrigin$Outbox", "empty", "()V"⟩ ⟨"PlainOrigin$Outbox", "empty", "()V"⟩ ∈ UW := uw_1_6 (List.mem_of_getElem? (i := 6) rfl) rfl
theorem mw_402 : .code ⟨"PlainOrigin$Outbox", "empty", "()V"⟩ prog_6_method_2_code 1 none ∈ UW := uw_1_6 (List.mem_of_getElem? (i := 7) rfl) rfl
theorem mw_403 : .methodLink "PlainOrigin$Outbox" 20 ⟨"PlainOrigin$Bytes", "clear", "()V"⟩ ∈ UW := uw_1_6 (List.mem_of_getElem? (i := 8) rfl) rfl
theorem mw_404 : .methodLink "PlainOriginLaw" 59 ⟨"PlainOrigin", "sent", "()I"⟩ ∈ UW := uw_1_6 (List.mem_of_getElem? (i := 9) rfl) rfl
theorem mw_405 : .instanceMethod ⟨"PlainOrigin", "sent", "()I"⟩ ∈ UW := uw_1_6 (List.mem_of_getElem? (i := 10) rfl) rfl
theorem mw_406 : .selects "PlainOrigin" ⟨"PlainOrigin", "sent", "()I"⟩ ⟨"PlainOrigin", "sent", "()I"⟩ ∈ UW := uw_1_6 (List.mem_of_getElem? (i := 11) rfl) rfl
theorem mw_407 : .code ⟨"PlainOrigin", "sent", "()I"⟩ prog_1_method_5_code 1 (some .int) ∈ UW := uw_1_6 (List.mem_of_getElem? (i := 12) rfl) rfl
theorem mw_408 : .methodLink "PlainOriginLaw" 67 ⟨"PlainOrigin", "drain", "()I"⟩ ∈ UW := uw_1_6 (List.mem_of_getElem? (i := 13) rfl) rfl
theorem mw_409 : .instanceMethod ⟨"PlainOrigin", "drain", "()I"⟩ ∈ UW := uw_1_6 (List.mem_of_getElem? (i := 14) rfl) rfl
theorem mw_410 : .selects "PlainOrigin" ⟨"PlainOrigin", "drain", "()I"⟩ ⟨"PlainOrigin", "drain", "()I"⟩ ∈ UW := uw_1_6 (List.mem_of_getElem? (i := 15) rfl) rfl
theorem mw_411 : .code ⟨"PlainOrigin", "drain", "()I"⟩ prog_1_method_7_code 2 (some .int) ∈ UW := uw_1_7 (List.mem_of_getElem? (i := 0) rfl) rfl
theorem mw_412 : .methodLink "PlainOriginLaw" 71 ⟨"PlainOrigin", "status", "()I"⟩ ∈ UW := uw_1_7 (List.mem_of_getElem? (i := 1) rfl) rfl
theorem mw_413 : .instanceMethod ⟨"PlainOrigin", "status", "()I"⟩ ∈ UW := uw_1_7 (List.mem_of_getElem? (i := 2) rfl) rfl
theorem mw_414 : .selects "PlainOrigin" ⟨"PlainOrigin", "status", "()I"⟩ ⟨"PlainOrigin", "status", "()I"⟩ ∈ UW := uw_1_7 (List.mem_of_getElem? (i := 3) rfl) rfl
theorem mw_415 : .code ⟨"PlainOrigin", "status", "()I"⟩ prog_1_method_8_code 1 (some .int) ∈ UW := uw_1_7 (List.mem_of_getElem? (i := 4) rfl) rfl
theorem mw_416 : .methodLink "PlainOriginLaw" 75 ⟨"PlainOrigin", "reading", "()I"⟩ ∈ UW := uw_1_7 (List.mem_of_getElem? (i := 5) rfl) rfl
theorem mw_417 : .instanceMethod ⟨"PlainOrigin", "reading", "()I"⟩ ∈ UW := uw_1_7 (List.mem_of_getElem? (i := 6) rfl) rfl
theorem mw_418 : .selects "PlainOrigin" ⟨"PlainOrigin", "reading", "()I"⟩ ⟨"PlainOrigin", "reading", "()I"⟩ ∈ UW := uw_1_7 (List.mem_of_getElem? (i := 7) rfl) rfl
theorem mw_419 : .code ⟨"PlainOrigin", "reading", "()I"⟩ prog_1_method_9_code 1 (some .int) ∈ UW := uw_1_7 (List.mem_of_getElem? (i := 8) rfl) rfl
theorem mw_420 : .methodLink "PlainOriginLaw" 89 ⟨"PlainOrigin", "changes", "()I"⟩ ∈ UW := uw_1_7 (List.mem_of_getElem? (i := 9) rfl) rfl
theorem mw_421 : .instanceMethod ⟨"PlainOrigin", "changes", "()I"⟩ ∈ UW := uw_1_7 (List.mem_of_getElem? (i := 10) rfl) rfl
theorem mw_422 : .selects "PlainOrigin" ⟨"PlainOrigin", "changes", "()I"⟩ ⟨"PlainOrigin", "changes", "()I"⟩ ∈ UW := uw_1_7 (List.mem_of_getElem? (i := 11) rfl) rfl
theorem mw_423 : .code ⟨"PlainOrigin", "changes", "()I"⟩ prog_1_method_13_code 1 (some .int) ∈ UW := uw_1_7 (List.mem_of_getElem? (i := 12) rfl) rfl
theorem mw_424 : .methodLink "PlainOriginLaw" 40 ⟨"PlainOriginLaw", "feed", "(LPlainOrigin;JI[J)I"⟩ ∈ UW := uw_1_7 (List.mem_of_getElem? (i := 13) rfl) rfl
theorem mw_425 : .static ⟨"PlainOriginLaw", "feed", "(LPlainOrigin;JI[J)I"⟩ ∈ UW := uw_1_7 (List.mem_of_getElem? (i := 14) rfl) rfl
theorem mw_427 : .classLink "PlainOriginLaw" 13 "java/lang/IllegalArgumentException" ∈ UW := uw_1_8 (List.mem_of_getElem? (i := 0) rfl) rfl
theorem mw_428 : .methodLink "PlainOriginLaw" 7 ⟨"PlainOrigin", "feed", "(JI)I"⟩ ∈ UW := uw_1_8 (List.mem_of_getElem? (i := 1) rfl) rfl
theorem mw_429 : .instanceMethod ⟨"PlainOrigin", "feed", "(JI)I"⟩ ∈ UW := uw_1_8 (List.mem_of_getElem? (i := 2) rfl) rfl
theorem mw_430 : .selects "PlainOrigin" ⟨"PlainOrigin", "feed", "(JI)I"⟩ ⟨"PlainOrigin", "feed", "(JI)I"⟩ ∈ UW := uw_1_8 (List.mem_of_getElem? (i := 3) rfl) rfl
theorem mw_431 : .code ⟨"PlainOrigin", "feed", "(JI)I"⟩ prog_1_method_2_code 7 (some .int) ∈ UW := uw_1_8 (List.mem_of_getElem? (i := 4) rfl) rfl
theorem mw_432 : .classLink "PlainOrigin" 41 "java/lang/IllegalArgumentException" ∈ UW := uw_1_8 (List.mem_of_getElem? (i := 5) rfl) rfl
theorem mw_433 : .instantiable "java/lang/IllegalArgumentException" 6 ∈ UW := uw_1_8 (List.mem_of_getElem? (i := 6) rfl) rfl
theorem mw_441 : .selects "java/lang/IllegalArgumentException" ⟨"java/lang/Throwable", "fillInStackTrace", "(I)Ljava/lang/Throwable;"⟩ ⟨"java/lang/Throwable", "fillInStackTrace", "(I)Ljava/lang/Throwable;"⟩ ∈ UW := uw_1_8 (List.mem_of_getElem? (i := 14) rfl) rfl
theorem mw_442 : .selects "java/lang/IllegalArgumentException" ⟨"java/lang/Throwable", "fillInStackTrace", "()Ljava/lang/Throwable;"⟩ ⟨"java/lang/Throwable", "fillInStackTrace", "()Ljava/lang/Throwable;"⟩ ∈ UW := uw_1_8 (List.mem_of_getElem? (i := 15) rfl) rfl
theorem mw_443 : .lays "java/lang/IllegalArgumentException" "java/lang/Throwable" "cause" "Ljava/lang/Throwable;" ∈ UW := uw_1_9 (List.mem_of_getElem? (i := 0) rfl) rfl
theorem mw_444 : .lays "java/lang/Throwable" "java/lang/Throwable" "cause" "Ljava/lang/Throwable;" ∈ UW := uw_1_9 (List.mem_of_getElem? (i := 1) rfl) rfl
theorem mw_445 : .lays "java/lang/IllegalArgumentException" "java/lang/Throwable" "stackTrace" "[Ljava/lang/StackTraceElement;" ∈ UW := uw_1_9 (List.mem_of_getElem? (i := 2) rfl) rfl
theorem mw_446 : .lays "java/lang/Throwable" "java/lang/Throwable" "stackTrace" "[Ljava/lang/StackTraceElement;" ∈ UW := uw_1_9 (List.mem_of_getElem? (i := 3) rfl) rfl
theorem mw_447 : .lays "java/lang/IllegalArgumentException" "java/lang/Throwable" "suppressedExceptions" "Ljava/util/List;" ∈ UW := uw_1_9 (List.mem_of_getElem? (i := 4) rfl) rfl
theorem mw_448 : .lays "java/lang/Throwable" "java/lang/Throwable" "suppressedExceptions" "Ljava/util/List;" ∈ UW := uw_1_9 (List.mem_of_getElem? (i := 5) rfl) rfl
theorem mw_449 : .lays "java/lang/IllegalArgumentException" "java/lang/Throwable" "detailMessage" "Ljava/lang/String;" ∈ UW := uw_1_9 (List.mem_of_getElem? (i := 6) rfl) rfl
theorem mw_450 : .lays "java/lang/Throwable" "java/lang/Throwable" "detailMessage" "Ljava/lang/String;" ∈ UW := uw_1_9 (List.mem_of_getElem? (i := 7) rfl) rfl
theorem mw_451 : .lays "java/lang/IllegalArgumentException" "java/lang/Throwable" "backtrace" "Ljava/lang/Object;" ∈ UW := uw_1_9 (List.mem_of_getElem? (i := 8) rfl) rfl
theorem mw_452 : .lays "java/lang/Throwable" "java/lang/Throwable" "backtrace" "Ljava/lang/Object;" ∈ UW := uw_1_9 (List.mem_of_getElem? (i := 9) rfl) rfl
theorem mw_453 : .fieldLink "java/lang/Throwable" 198 "java/lang/Throwable" "backtrace" "Ljava/lang/Object;" ∈ UW := uw_1_9 (List.mem_of_getElem? (i := 10) rfl) rfl
theorem mw_455 : .instanceMethod ⟨"java/lang/Throwable", "<init>", "()V"⟩ ∈ UW := uw_1_9 (List.mem_of_getElem? (i := 12) rfl) rfl
theorem mw_456 : .code ⟨"java/lang/Throwable", "<init>", "()V"⟩ prog_25_method_1_code 1 none ∈ UW := uw_1_9 (List.mem_of_getElem? (i := 13) rfl) rfl
theorem mw_457 : .methodLink "java/lang/Throwable" 1 ⟨"java/lang/Object", "<init>", "()V"⟩ ∈ UW := uw_1_9 (List.mem_of_getElem? (i := 14) rfl) rfl
theorem mw_458 : .fieldLink "java/lang/Throwable" 13 "java/lang/Throwable" "UNASSIGNED_STACK" "[Ljava/lang/StackTraceElement;" ∈ UW := uw_1_9 (List.mem_of_getElem? (i := 15) rfl) rfl
theorem mw_460 : .fieldLink "java/lang/Throwable" 20 "java/lang/Throwable" "SUPPRESSED_SENTINEL" "Ljava/util/List;" ∈ UW := uw_1_10 (List.mem_of_getElem? (i := 1) rfl) rfl
theorem mw_462 : .methodLink "java/lang/Throwable" 27 ⟨"java/lang/Throwable", "fillInStackTrace", "()Ljava/lang/Throwable;"⟩ ∈ UW := uw_1_10 (List.mem_of_getElem? (i := 3) rfl) rfl
theorem mw_463 : .instanceMethod ⟨"java/lang/Throwable", "fillInStackTrace", "()Ljava/lang/Throwable;"⟩ ∈ UW := uw_1_10 (List.mem_of_getElem? (i := 4) rfl) rfl
theorem mw_465 : .selects "java/lang/IndexOutOfBoundsException" ⟨"java/lang/Throwable", "fillInStackTrace", "()Ljava/lang/Throwable;"⟩ ⟨"java/lang/Throwable", "fillInStackTrace", "()Ljava/lang/Throwable;"⟩ ∈ UW := uw_1_10 (List.mem_of_getElem? (i := 6) rfl) rfl
theorem mw_466 : .selects "java/util/NoSuchElementException" ⟨"java/lang/Throwable", "fillInStackTrace", "()Ljava/lang/Throwable;"⟩ ⟨"java/lang/Throwable", "fillInStackTrace", "()Ljava/lang/Throwable;"⟩ ∈ UW := uw_1_10 (List.mem_of_getElem? (i := 7) rfl) rfl
theorem mw_468 : .methodLink "java/lang/Throwable" 202 ⟨"java/lang/Throwable", "fillInStackTrace", "(I)Ljava/lang/Throwable;"⟩ ∈ UW := uw_1_10 (List.mem_of_getElem? (i := 9) rfl) rfl
theorem mw_470 : .instanceMethod ⟨"java/lang/Throwable", "fillInStackTrace", "(I)Ljava/lang/Throwable;"⟩ ∈ UW := uw_1_10 (List.mem_of_getElem? (i := 11) rfl) rfl
theorem mw_471 : .instantiable "java/lang/Throwable" 6 ∈ UW := uw_1_10 (List.mem_of_getElem? (i := 12) rfl) rfl
theorem mw_474 : .methodLink "PlainOrigin" 45 ⟨"java/lang/IllegalArgumentException", "<init>", "(Ljava/lang/String;)V"⟩ ∈ UW := uw_1_10 (List.mem_of_getElem? (i := 15) rfl) rfl
theorem mw_475 : .instanceMethod ⟨"java/lang/IllegalArgumentException", "<init>", "(Ljava/lang/String;)V"⟩ ∈ UW := uw_1_11 (List.mem_of_getElem? (i := 0) rfl) rfl
theorem mw_476 : .code ⟨"java/lang/IllegalArgumentException", "<init>", "(Ljava/lang/String;)V"⟩ prog_18_method_2_code 2 none ∈ UW := uw_1_11 (List.mem_of_getElem? (i := 1) rfl) rfl
theorem mw_477 : .methodLink "java/lang/IllegalArgumentException" 7 ⟨"java/lang/RuntimeException", "<init>", "(Ljava/lang/String;)V"⟩ ∈ UW := uw_1_11 (List.mem_of_getElem? (i := 2) rfl) rfl
theorem mw_478 : .instanceMethod ⟨"java/lang/RuntimeException", "<init>", "(Ljava/lang/String;)V"⟩ ∈ UW := uw_1_11 (List.mem_of_getElem? (i := 3) rfl) rfl
theorem mw_479 : .code ⟨"java/lang/RuntimeException", "<init>", "(Ljava/lang/String;)V"⟩ prog_21_method_2_code 2 none ∈ UW := uw_1_11 (List.mem_of_getElem? (i := 4) rfl) rfl
theorem mw_480 : .methodLink "java/lang/RuntimeException" 7 ⟨"java/lang/Exception", "<init>", "(Ljava/lang/String;)V"⟩ ∈ UW := uw_1_11 (List.mem_of_getElem? (i := 5) rfl) rfl
theorem mw_481 : .instanceMethod ⟨"java/lang/Exception", "<init>", "(Ljava/lang/String;)V"⟩ ∈ UW := uw_1_11 (List.mem_of_getElem? (i := 6) rfl) rfl
theorem mw_482 : .code ⟨"java/lang/Exception", "<init>", "(Ljava/lang/String;)V"⟩ prog_17_method_2_code 2 none ∈ UW := uw_1_11 (List.mem_of_getElem? (i := 7) rfl) rfl
theorem mw_483 : .methodLink "java/lang/Exception" 7 ⟨"java/lang/Throwable", "<init>", "(Ljava/lang/String;)V"⟩ ∈ UW := uw_1_11 (List.mem_of_getElem? (i := 8) rfl) rfl
theorem mw_484 : .instanceMethod ⟨"java/lang/Throwable", "<init>", "(Ljava/lang/String;)V"⟩ ∈ UW := uw_1_11 (List.mem_of_getElem? (i := 9) rfl) rfl
theorem mw_485 : .code ⟨"java/lang/Throwable", "<init>", "(Ljava/lang/String;)V"⟩ prog_25_method_2_code 2 none ∈ UW := uw_1_11 (List.mem_of_getElem? (i := 10) rfl) rfl
theorem mw_487 : .fieldLink "java/lang/Throwable" 31 "java/lang/Throwable" "detailMessage" "Ljava/lang/String;" ∈ UW := uw_1_11 (List.mem_of_getElem? (i := 12) rfl) rfl
theorem mw_488 : .fieldLink "java/lang/Throwable" 7 "java/lang/Throwable" "cause" "Ljava/lang/Throwable;" ∈ UW := uw_1_11 (List.mem_of_getElem? (i := 13) rfl) rfl
theorem mw_489 : .fieldLink "java/lang/Throwable" 17 "java/lang/Throwable" "stackTrace" "[Ljava/lang/StackTraceElement;" ∈ UW := uw_1_11 (List.mem_of_getElem? (i := 14) rfl) rfl
theorem mw_490 : .fieldLink "java/lang/Throwable" 24 "java/lang/Throwable" "suppressedExceptions" "Ljava/util/List;" ∈ UW := uw_1_11 (List.mem_of_getElem? (i := 15) rfl) rfl
theorem mw_495 : .lays "java/lang/IllegalArgumentException" "java/lang/Throwable" "depth" "I" ∈ UW := uw_1_12 (List.mem_of_getElem? (i := 4) rfl) rfl
theorem mw_499 : .arrayClass .byte ∈ UW := uw_1_12 (List.mem_of_getElem? (i := 8) rfl) rfl
theorem mw_500 : .methodLink "PlainOrigin" 48 ⟨"PlainOrigin$Reader", "take", "(I)I"⟩ ∈ UW := uw_1_12 (List.mem_of_getElem? (i := 9) rfl) rfl
theorem mw_501 : .instanceMethod ⟨"PlainOrigin$Reader", "take", "(I)I"⟩ ∈ UW := uw_1_12 (List.mem_of_getElem? (i := 10) rfl) rfl
theorem mw_502 : .selects "PlainOrigin$Reader" ⟨"PlainOrigin$Reader", "take", "(I)I"⟩ ⟨"PlainOrigin$Reader", "take", "(I)I"⟩ ∈ UW := uw_1_12 (List.mem_of_getElem? (i := 11) rfl) rfl
theorem mw_503 : .code ⟨"PlainOrigin$Reader", "take", "(I)I"⟩ prog_8_method_3_code 2 (some .int) ∈ UW := uw_1_12 (List.mem_of_getElem? (i := 12) rfl) rfl
theorem mw_504 : .methodLink "PlainOrigin$Reader" 45 ⟨"PlainOrigin$Reader", "takeBodyByte", "(I)I"⟩ ∈ UW := uw_1_12 (List.mem_of_getElem? (i := 13) rfl) rfl
theorem mw_506 : .instanceMethod ⟨"PlainOrigin$Reader", "takeBodyByte", "(I)I"⟩ ∈ UW := uw_1_12 (List.mem_of_getElem? (i := 15) rfl) rfl
theorem mw_507 : .code ⟨"PlainOrigin$Reader", "takeBodyByte", "(I)I"⟩ prog_8_method_4_code 2 (some .int) ∈ UW := uw_1_13 (List.mem_of_getElem? (i := 0) rfl) rfl
theorem mw_508 : .methodLink "PlainOrigin$Reader" 58 ⟨"PlainOrigin$Bytes", "add", "(I)V"⟩ ∈ UW := uw_1_13 (List.mem_of_getElem? (i := 1) rfl) rfl
theorem mw_509 : .instanceMethod ⟨"PlainOrigin$Bytes", "add", "(I)V"⟩ ∈ UW := uw_1_13 (List.mem_of_getElem? (i := 2) rfl) rfl
theorem mw_510 : .selects "PlainOrigin$Bytes" ⟨"PlainOrigin$Bytes", "add", "(I)V"⟩ ⟨"PlainOrigin$Bytes", "add", "(I)V"⟩ ∈ UW := uw_1_13 (List.mem_of_getElem? (i := 3) rfl) rfl
theorem mw_511 : .code ⟨"PlainOrigin$Bytes", "add", "(I)V"⟩ prog_3_method_3_code 2 none ∈ UW := uw_1_13 (List.mem_of_getElem? (i := 4) rfl) rfl
theorem mw_512 : .methodLink "PlainOrigin$Reader" 49 ⟨"PlainOrigin$Reader", "takeChunkByte", "(I)I"⟩ ∈ UW := uw_1_13 (List.mem_of_getElem? (i := 5) rfl) rfl
theorem mw_514 : .instanceMethod ⟨"PlainOrigin$Reader", "takeChunkByte", "(I)I"⟩ ∈ UW := uw_1_13 (List.mem_of_getElem? (i := 7) rfl) rfl
theorem mw_515 : .code ⟨"PlainOrigin$Reader", "takeChunkByte", "(I)I"⟩ prog_8_method_5_code 2 (some .int) ∈ UW := uw_1_13 (List.mem_of_getElem? (i := 8) rfl) rfl
theorem mw_516 : .methodLink "PlainOrigin$Reader" 52 ⟨"PlainOrigin$Reader", "takeLineByte", "(I)I"⟩ ∈ UW := uw_1_13 (List.mem_of_getElem? (i := 9) rfl) rfl
theorem mw_518 : .instanceMethod ⟨"PlainOrigin$Reader", "takeLineByte", "(I)I"⟩ ∈ UW := uw_1_13 (List.mem_of_getElem? (i := 11) rfl) rfl
theorem mw_519 : .code ⟨"PlainOrigin$Reader", "takeLineByte", "(I)I"⟩ prog_8_method_6_code 2 (some .int) ∈ UW := uw_1_13 (List.mem_of_getElem? (i := 12) rfl) rfl
theorem mw_520 : .methodLink "PlainOrigin$Reader" 67 ⟨"PlainOrigin$Reader", "tooLong", "()I"⟩ ∈ UW := uw_1_13 (List.mem_of_getElem? (i := 13) rfl) rfl
theorem mw_522 : .instanceMethod ⟨"PlainOrigin$Reader", "tooLong", "()I"⟩ ∈ UW := uw_1_13 (List.mem_of_getElem? (i := 15) rfl) rfl
theorem mw_523 : .code ⟨"PlainOrigin$Reader", "tooLong", "()I"⟩ prog_8_method_7_code 1 (some .int) ∈ UW := uw_1_14 (List.mem_of_getElem? (i := 0) rfl) rfl
theorem mw_524 : .methodLink "PlainOrigin" 52 ⟨"PlainOrigin$Reader", "endLine", "()I"⟩ ∈ UW := uw_1_14 (List.mem_of_getElem? (i := 1) rfl) rfl
theorem mw_525 : .instanceMethod ⟨"PlainOrigin$Reader", "endLine", "()I"⟩ ∈ UW := uw_1_14 (List.mem_of_getElem? (i := 2) rfl) rfl
theorem mw_526 : .selects "PlainOrigin$Reader" ⟨"PlainOrigin$Reader", "endLine", "()I"⟩ ⟨"PlainOrigin$Reader", "endLine", "()I"⟩ ∈ UW := uw_1_14 (List.mem_of_getElem? (i := 3) rfl) rfl
theorem mw_527 : .code ⟨"PlainOrigin$Reader", "endLine", "()I"⟩ prog_8_method_8_code 2 (some .int) ∈ UW := uw_1_14 (List.mem_of_getElem? (i := 4) rfl) rfl
theorem mw_528 : .methodLink "PlainOrigin$Reader" 71 ⟨"PlainOrigin$Reader", "endRequestLine", "()I"⟩ ∈ UW := uw_1_14 (List.mem_of_getElem? (i := 5) rfl) rfl
theorem mw_530 : .instanceMethod ⟨"PlainOrigin$Reader", "endRequestLine", "()I"⟩ ∈ UW := uw_1_14 (List.mem_of_getElem? (i := 7) rfl) rfl
theorem mw_531 : .code ⟨"PlainOrigin$Reader", "endRequestLine", "()I"⟩ prog_8_method_9_code 2 (some .int) ∈ UW := uw_1_14 (List.mem_of_getElem? (i := 8) rfl) rfl
theorem mw_532 : .methodLink "PlainOrigin$Reader" 90 ⟨"PlainOrigin$Request", "takeLine", "(LPlainOrigin$Bytes;)I"⟩ ∈ UW := uw_1_14 (List.mem_of_getElem? (i := 9) rfl) rfl
theorem mw_533 : .instanceMethod ⟨"PlainOrigin$Request", "takeLine", "(LPlainOrigin$Bytes;)I"⟩ ∈ UW := uw_1_14 (List.mem_of_getElem? (i := 10) rfl) rfl
theorem mw_534 : .selects "PlainOrigin$Request" ⟨"PlainOrigin$Request", "takeLine", "(LPlainOrigin$Bytes;)I"⟩ ⟨"PlainOrigin$Request", "takeLine", "(LPlainOrigin$Bytes;)I"⟩ ∈ UW := uw_1_14 (List.mem_of_getElem? (i := 11) rfl) rfl
theorem mw_535 : .code ⟨"PlainOrigin$Request", "takeLine", "(LPlainOrigin$Bytes;)I"⟩ prog_9_method_4_code 6 (some .int) ∈ UW := uw_1_14 (List.mem_of_getElem? (i := 12) rfl) rfl
theorem mw_536 : .methodLink "PlainOrigin$Request" 58 ⟨"PlainOrigin$Text", "find", "(LPlainOrigin$Bytes;III)I"⟩ ∈ UW := uw_1_14 (List.mem_of_getElem? (i := 13) rfl) rfl
theorem mw_537 : .static ⟨"PlainOrigin$Text", "find", "(LPlainOrigin$Bytes;III)I"⟩ ∈ UW := uw_1_14 (List.mem_of_getElem? (i := 14) rfl) rfl
theorem mw_538 : .code ⟨"PlainOrigin$Text", "find", "(LPlainOrigin$Bytes;III)I"⟩ prog_12_method_8_code 5 (some .int) ∈ UW := uw_1_14 (List.mem_of_getElem? (i := 15) rfl) rfl
theorem mw_539 : .methodLink "PlainOrigin$Text" 21 ⟨"PlainOrigin$Bytes", "get", "(I)I"⟩ ∈ UW := uw_2_0 (List.mem_of_getElem? (i := 0) rfl) rfl
theorem mw_540 : .instanceMethod ⟨"PlainOrigin$Bytes", "get", "(I)I"⟩ ∈ UW := uw_2_0 (List.mem_of_getElem? (i := 1) rfl) rfl
theorem mw_541 : .selects "PlainOrigin$Bytes" ⟨"PlainOrigin$Bytes", "get", "(I)I"⟩ ⟨"PlainOrigin$Bytes", "get", "(I)I"⟩ ∈ UW := uw_2_0 (List.mem_of_getElem? (i := 2) rfl) rfl
theorem mw_542 : .code ⟨"PlainOrigin$Bytes", "get", "(I)I"⟩ prog_3_method_5_code 2 (some .int) ∈ UW := uw_2_0 (List.mem_of_getElem? (i := 3) rfl) rfl
theorem mw_543 : .methodLink "PlainOrigin$Request" 64 ⟨"PlainOrigin$Text", "isToken", "(LPlainOrigin$Bytes;II)Z"⟩ ∈ UW := uw_2_0 (List.mem_of_getElem? (i := 4) rfl) rfl
theorem mw_544 : .static ⟨"PlainOrigin$Text", "isToken", "(LPlainOrigin$Bytes;II)Z"⟩ ∈ UW := uw_2_0 (List.mem_of_getElem? (i := 5) rfl) rfl
theorem mw_545 : .code ⟨"PlainOrigin$Text", "isToken", "(LPlainOrigin$Bytes;II)Z"⟩ prog_12_method_13_code 4 (some .boolean) ∈ UW := uw_2_0 (List.mem_of_getElem? (i := 6) rfl) rfl
theorem mw_547 : .methodLink "PlainOrigin$Text" 42 ⟨"PlainOrigin$Text", "isLetterDigitOr", "(ILjava/lang/String;)Z"⟩ ∈ UW := uw_2_0 (List.mem_of_getElem? (i := 8) rfl) rfl
theorem mw_548 : .static ⟨"PlainOrigin$Text", "isLetterDigitOr", "(ILjava/lang/String;)Z"⟩ ∈ UW := uw_2_0 (List.mem_of_getElem? (i := 9) rfl) rfl
theorem mw_549 : .code ⟨"PlainOrigin$Text", "isLetterDigitOr", "(ILjava/lang/String;)Z"⟩ prog_12_method_3_code 2 (some .boolean) ∈ UW := uw_2_0 (List.mem_of_getElem? (i := 10) rfl) rfl
theorem mw_550 : .methodLink "PlainOrigin$Text" 9 ⟨"PlainOrigin$Text", "isDigit", "(I)Z"⟩ ∈ UW := uw_2_0 (List.mem_of_getElem? (i := 11) rfl) rfl
theorem mw_551 : .static ⟨"PlainOrigin$Text", "isDigit", "(I)Z"⟩ ∈ UW := uw_2_0 (List.mem_of_getElem? (i := 12) rfl) rfl
theorem mw_552 : .code ⟨"PlainOrigin$Text", "isDigit", "(I)Z"⟩ prog_12_method_2_code 1 (some .boolean) ∈ UW := uw_2_0 (List.mem_of_getElem? (i := 13) rfl) rfl
theorem mw_553 : .methodLink "PlainOrigin$Text" 15 ⟨"java/lang/String", "indexOf", "(I)I"⟩ ∈ UW := uw_2_0 (List.mem_of_getElem? (i := 14) rfl) rfl
theorem mw_554 : .instanceMethod ⟨"java/lang/String", "indexOf", "(I)I"⟩ ∈ UW := uw_2_0 (List.mem_of_getElem? (i := 15) rfl) rfl
theorem mw_555 : .selects "java/lang/String" ⟨"java/lang/String", "indexOf", "(I)I"⟩ ⟨"java/lang/String", "indexOf", "(I)I"⟩ ∈ UW := uw_2_1 (List.mem_of_getElem? (i := 0) rfl) rfl
theorem mw_556 : .code ⟨"java/lang/String", "indexOf", "(I)I"⟩ prog_22_method_79_code 2 (some .int) ∈ UW := uw_2_1 (List.mem_of_getElem? (i := 1) rfl) rfl
theorem mw_557 : .methodLink "java/lang/String" 633 ⟨"java/lang/String", "indexOf", "(II)I"⟩ ∈ UW := uw_2_1 (List.mem_of_getElem? (i := 2) rfl) rfl
theorem mw_558 : .instanceMethod ⟨"java/lang/String", "indexOf", "(II)I"⟩ ∈ UW := uw_2_1 (List.mem_of_getElem? (i := 3) rfl) rfl
theorem mw_559 : .selects "java/lang/String" ⟨"java/lang/String", "indexOf", "(II)I"⟩ ⟨"java/lang/String", "indexOf", "(II)I"⟩ ∈ UW := uw_2_1 (List.mem_of_getElem? (i := 4) rfl) rfl
theorem mw_560 : .code ⟨"java/lang/String", "indexOf", "(II)I"⟩ prog_22_method_80_code 3 (some .int) ∈ UW := uw_2_1 (List.mem_of_getElem? (i := 5) rfl) rfl
theorem mw_561 : .methodLink "java/lang/String" 492 ⟨"java/lang/String", "isLatin1", "()Z"⟩ ∈ UW := uw_2_1 (List.mem_of_getElem? (i := 6) rfl) rfl
theorem mw_562 : .instanceMethod ⟨"java/lang/String", "isLatin1", "()Z"⟩ ∈ UW := uw_2_1 (List.mem_of_getElem? (i := 7) rfl) rfl
theorem mw_563 : .selects "java/lang/String" ⟨"java/lang/String", "isLatin1", "()Z"⟩ ⟨"java/lang/String", "isLatin1", "()Z"⟩ ∈ UW := uw_2_1 (List.mem_of_getElem? (i := 8) rfl) rfl
theorem mw_564 : .code ⟨"java/lang/String", "isLatin1", "()Z"⟩ prog_22_method_154_code 1 (some .boolean) ∈ UW := uw_2_1 (List.mem_of_getElem? (i := 9) rfl) rfl
theorem mw_565 : .fieldLink "java/lang/String" 38 "java/lang/String" "COMPACT_STRINGS" "Z" ∈ UW := uw_2_1 (List.mem_of_getElem? (i := 10) rfl) rfl
theorem mw_567 : .methodLink "java/lang/String" 505 ⟨"java/lang/String", "length", "()I"⟩ ∈ UW := uw_2_1 (List.mem_of_getElem? (i := 12) rfl) rfl
theorem mw_568 : .instanceMethod ⟨"java/lang/String", "length", "()I"⟩ ∈ UW := uw_2_1 (List.mem_of_getElem? (i := 13) rfl) rfl
theorem mw_569 : .selects "java/lang/String" ⟨"java/lang/String", "length", "()I"⟩ ⟨"java/lang/String", "length", "()I"⟩ ∈ UW := uw_2_1 (List.mem_of_getElem? (i := 14) rfl) rfl
theorem mw_570 : .code ⟨"java/lang/String", "length", "()I"⟩ prog_22_method_54_code 1 (some .int) ∈ UW := uw_2_1 (List.mem_of_getElem? (i := 15) rfl) rfl
theorem mw_571 : .methodLink "java/lang/String" 335 ⟨"java/lang/String", "coder", "()B"⟩ ∈ UW := uw_2_2 (List.mem_of_getElem? (i := 0) rfl) rfl
theorem mw_572 : .instanceMethod ⟨"java/lang/String", "coder", "()B"⟩ ∈ UW := uw_2_2 (List.mem_of_getElem? (i := 1) rfl) rfl
theorem mw_573 : .selects "java/lang/String" ⟨"java/lang/String", "coder", "()B"⟩ ⟨"java/lang/String", "coder", "()B"⟩ ∈ UW := uw_2_2 (List.mem_of_getElem? (i := 2) rfl) rfl
theorem mw_574 : .code ⟨"java/lang/String", "coder", "()B"⟩ prog_22_method_152_code 1 (some .byte) ∈ UW := uw_2_2 (List.mem_of_getElem? (i := 3) rfl) rfl
theorem mw_575 : .methodLink "java/lang/String" 637 ⟨"java/lang/StringLatin1", "indexOf", "([BIII)I"⟩ ∈ UW := uw_2_2 (List.mem_of_getElem? (i := 4) rfl) rfl
theorem mw_576 : .static ⟨"java/lang/StringLatin1", "indexOf", "([BIII)I"⟩ ∈ UW := uw_2_2 (List.mem_of_getElem? (i := 5) rfl) rfl
theorem mw_577 : .code ⟨"java/lang/StringLatin1", "indexOf", "([BIII)I"⟩ prog_23_method_22_code 4 (some .int) ∈ UW := uw_2_2 (List.mem_of_getElem? (i := 6) rfl) rfl
theorem mw_578 : .methodLink "java/lang/StringLatin1" 88 ⟨"java/lang/StringLatin1", "canEncode", "(I)Z"⟩ ∈ UW := uw_2_2 (List.mem_of_getElem? (i := 7) rfl) rfl
theorem mw_579 : .static ⟨"java/lang/StringLatin1", "canEncode", "(I)Z"⟩ ∈ UW := uw_2_2 (List.mem_of_getElem? (i := 8) rfl) rfl
theorem mw_580 : .code ⟨"java/lang/StringLatin1", "canEncode", "(I)Z"⟩ prog_23_method_4_code 1 (some .boolean) ∈ UW := uw_2_2 (List.mem_of_getElem? (i := 9) rfl) rfl
theorem mw_581 : .methodLink "java/lang/StringLatin1" 92 ⟨"java/lang/Math", "max", "(II)I"⟩ ∈ UW := uw_2_2 (List.mem_of_getElem? (i := 10) rfl) rfl
theorem mw_582 : .static ⟨"java/lang/Math", "max", "(II)I"⟩ ∈ UW := uw_2_2 (List.mem_of_getElem? (i := 11) rfl) rfl
theorem mw_583 : .code ⟨"java/lang/Math", "max", "(II)I"⟩ prog_20_method_65_code 2 (some .int) ∈ UW := uw_2_2 (List.mem_of_getElem? (i := 12) rfl) rfl
theorem mw_584 : .methodLink "java/lang/StringLatin1" 38 ⟨"java/lang/Math", "min", "(II)I"⟩ ∈ UW := uw_2_2 (List.mem_of_getElem? (i := 13) rfl) rfl
theorem mw_585 : .static ⟨"java/lang/Math", "min", "(II)I"⟩ ∈ UW := uw_2_2 (List.mem_of_getElem? (i := 14) rfl) rfl
theorem mw_586 : .code ⟨"java/lang/Math", "min", "(II)I"⟩ prog_20_method_69_code 2 (some .int) ∈ UW := uw_2_2 (List.mem_of_getElem? (i := 15) rfl) rfl
theorem mw_587 : .methodLink "java/lang/StringLatin1" 95 ⟨"java/lang/StringLatin1", "indexOfChar", "([BIII)I"⟩ ∈ UW := uw_2_3 (List.mem_of_getElem? (i := 0) rfl) rfl
theorem mw_588 : .static ⟨"java/lang/StringLatin1", "indexOfChar", "([BIII)I"⟩ ∈ UW := uw_2_3 (List.mem_of_getElem? (i := 1) rfl) rfl
theorem mw_589 : .code ⟨"java/lang/StringLatin1", "indexOfChar", "([BIII)I"⟩ prog_23_method_23_code 6 (some .int) ∈ UW := uw_2_3 (List.mem_of_getElem? (i := 2) rfl) rfl
theorem mw_590 : .methodLink "java/lang/String" 640 ⟨"java/lang/StringUTF16", "indexOf", "([BIII)I"⟩ ∈ UW := uw_2_3 (List.mem_of_getElem? (i := 3) rfl) rfl
theorem mw_591 : .static ⟨"java/lang/StringUTF16", "indexOf", "([BIII)I"⟩ ∈ UW := uw_2_3 (List.mem_of_getElem? (i := 4) rfl) rfl
theorem mw_592 : .code ⟨"java/lang/StringUTF16", "indexOf", "([BIII)I"⟩ prog_24_method_40_code 4 (some .int) ∈ UW := uw_2_3 (List.mem_of_getElem? (i := 5) rfl) rfl
theorem mw_593 : .methodLink "java/lang/StringUTF16" 224 ⟨"java/lang/Math", "max", "(II)I"⟩ ∈ UW := uw_2_3 (List.mem_of_getElem? (i := 6) rfl) rfl
theorem mw_594 : .methodLink "java/lang/StringUTF16" 183 ⟨"java/lang/Math", "min", "(II)I"⟩ ∈ UW := uw_2_3 (List.mem_of_getElem? (i := 7) rfl) rfl
theorem mw_595 : .constant "java/lang/StringUTF16" 227 (65536) ∈ UW := uw_2_3 (List.mem_of_getElem? (i := 8) rfl) rfl
theorem mw_596 : .methodLink "java/lang/StringUTF16" 228 ⟨"java/lang/StringUTF16", "indexOfChar", "([BIII)I"⟩ ∈ UW := uw_2_3 (List.mem_of_getElem? (i := 9) rfl) rfl
theorem mw_597 : .static ⟨"java/lang/StringUTF16", "indexOfChar", "([BIII)I"⟩ ∈ UW := uw_2_3 (List.mem_of_getElem? (i := 10) rfl) rfl
theorem mw_598 : .code ⟨"java/lang/StringUTF16", "indexOfChar", "([BIII)I"⟩ prog_24_method_47_code 4 (some .int) ∈ UW := uw_2_3 (List.mem_of_getElem? (i := 11) rfl) rfl
theorem mw_599 : .methodLink "java/lang/StringUTF16" 96 ⟨"java/lang/StringUTF16", "checkBoundsBeginEnd", "(II[B)V"⟩ ∈ UW := uw_2_3 (List.mem_of_getElem? (i := 12) rfl) rfl
theorem mw_600 : .static ⟨"java/lang/StringUTF16", "checkBoundsBeginEnd", "(II[B)V"⟩ ∈ UW := uw_2_3 (List.mem_of_getElem? (i := 13) rfl) rfl
theorem mw_601 : .code ⟨"java/lang/StringUTF16", "checkBoundsBeginEnd", "(II[B)V"⟩ prog_24_method_93_code 3 none ∈ UW := uw_2_3 (List.mem_of_getElem? (i := 14) rfl) rfl
theorem mw_602 : .methodLink "java/lang/StringUTF16" 48 ⟨"java/lang/StringUTF16", "length", "([B)I"⟩ ∈ UW := uw_2_3 (List.mem_of_getElem? (i := 15) rfl) rfl
theorem mw_603 : .static ⟨"java/lang/StringUTF16", "length", "([B)I"⟩ ∈ UW := uw_2_4 (List.mem_of_getElem? (i := 0) rfl) rfl
theorem mw_604 : .code ⟨"java/lang/StringUTF16", "length", "([B)I"⟩ prog_24_method_6_code 1 (some .int) ∈ UW := uw_2_4 (List.mem_of_getElem? (i := 1) rfl) rfl
theorem mw_605 : .methodLink "java/lang/StringUTF16" 241 ⟨"java/lang/String", "checkBoundsBeginEnd", "(III)V"⟩ ∈ UW := uw_2_4 (List.mem_of_getElem? (i := 2) rfl) rfl
theorem mw_606 : .static ⟨"java/lang/String", "checkBoundsBeginEnd", "(III)V"⟩ ∈ UW := uw_2_4 (List.mem_of_getElem? (i := 3) rfl) rfl
theorem mw_607 : .code ⟨"java/lang/String", "checkBoundsBeginEnd", "(III)V"⟩ prog_22_method_158_code 3 none ∈ UW := uw_2_4 (List.mem_of_getElem? (i := 4) rfl) rfl
theorem mw_608 : .fieldLink "java/lang/String" 1053 "jdk/internal/util/Preconditions" "SIOOBE_FORMATTER" "Ljava/util/function/BiFunction;" ∈ UW := uw_2_4 (List.mem_of_getElem? (i := 5) rfl) rfl
theorem mw_610 : .methodLink "java/lang/String" 1062 ⟨"jdk/internal/util/Preconditions", "checkFromToIndex", "(IIILjava/util/function/BiFunction;)I"⟩ ∈ UW := uw_2_4 (List.mem_of_getElem? (i := 7) rfl) rfl
theorem mw_611 : .static ⟨"jdk/internal/util/Preconditions", "checkFromToIndex", "(IIILjava/util/function/BiFunction;)I"⟩ ∈ UW := uw_2_4 (List.mem_of_getElem? (i := 8) rfl) rfl
theorem mw_612 : .code ⟨"jdk/internal/util/Preconditions", "checkFromToIndex", "(IIILjava/util/function/BiFunction;)I"⟩ prog_27_method_12_code 4 (some .int) ∈ UW := uw_2_4 (List.mem_of_getElem? (i := 9) rfl) rfl
theorem mw_613 : .methodLink "java/lang/StringUTF16" 244 ⟨"java/lang/StringUTF16", "indexOfCharUnsafe", "([BIII)I"⟩ ∈ UW := uw_2_4 (List.mem_of_getElem? (i := 10) rfl) rfl
theorem mw_614 : .static ⟨"java/lang/StringUTF16", "indexOfCharUnsafe", "([BIII)I"⟩ ∈ UW := uw_2_4 (List.mem_of_getElem? (i := 11) rfl) rfl
theorem mw_615 : .code ⟨"java/lang/StringUTF16", "indexOfCharUnsafe", "([BIII)I"⟩ prog_24_method_48_code 5 (some .int) ∈ UW := uw_2_4 (List.mem_of_getElem? (i := 12) rfl) rfl
theorem mw_616 : .methodLink "java/lang/StringUTF16" 71 ⟨"java/lang/StringUTF16", "getChar", "([BI)C"⟩ ∈ UW := uw_2_4 (List.mem_of_getElem? (i := 13) rfl) rfl
theorem mw_617 : .static ⟨"java/lang/StringUTF16", "getChar", "([BI)C"⟩ ∈ UW := uw_2_4 (List.mem_of_getElem? (i := 14) rfl) rfl
theorem mw_618 : .code ⟨"java/lang/StringUTF16", "getChar", "([BI)C"⟩ prog_24_method_5_code 2 (some .char) ∈ UW := uw_2_4 (List.mem_of_getElem? (i := 15) rfl) rfl
theorem mw_619 : .fieldLink "java/lang/StringUTF16" 44 "java/lang/StringUTF16" "$assertionsDisabled" "Z" ∈ UW := uw_2_5 (List.mem_of_getElem? (i := 0) rfl) rfl
theorem mw_621 : .fieldLink "java/lang/StringUTF16" 59 "java/lang/StringUTF16" "HI_BYTE_SHIFT" "I" ∈ UW := uw_2_5 (List.mem_of_getElem? (i := 2) rfl) rfl
theorem mw_623 : .fieldLink "java/lang/StringUTF16" 63 "java/lang/StringUTF16" "LO_BYTE_SHIFT" "I" ∈ UW := uw_2_5 (List.mem_of_getElem? (i := 4) rfl) rfl
theorem mw_625 : .methodLink "java/lang/StringUTF16" 232 ⟨"java/lang/StringUTF16", "indexOfSupplementary", "([BIII)I"⟩ ∈ UW := uw_2_5 (List.mem_of_getElem? (i := 6) rfl) rfl
theorem mw_626 : .static ⟨"java/lang/StringUTF16", "indexOfSupplementary", "([BIII)I"⟩ ∈ UW := uw_2_5 (List.mem_of_getElem? (i := 7) rfl) rfl
theorem mw_627 : .code ⟨"java/lang/StringUTF16", "indexOfSupplementary", "([BIII)I"⟩ prog_24_method_49_code 7 (some .int) ∈ UW := uw_2_5 (List.mem_of_getElem? (i := 8) rfl) rfl
theorem mw_628 : .methodLink "java/lang/StringUTF16" 164 ⟨"java/lang/Character", "isValidCodePoint", "(I)Z"⟩ ∈ UW := uw_2_5 (List.mem_of_getElem? (i := 9) rfl) rfl
theorem mw_629 : .static ⟨"java/lang/Character", "isValidCodePoint", "(I)Z"⟩ ∈ UW := uw_2_5 (List.mem_of_getElem? (i := 10) rfl) rfl
theorem mw_630 : .code ⟨"java/lang/Character", "isValidCodePoint", "(I)Z"⟩ prog_15_method_11_code 2 (some .boolean) ∈ UW := uw_2_5 (List.mem_of_getElem? (i := 11) rfl) rfl
theorem mw_631 : .methodLink "java/lang/StringUTF16" 157 ⟨"java/lang/Character", "highSurrogate", "(I)C"⟩ ∈ UW := uw_2_5 (List.mem_of_getElem? (i := 12) rfl) rfl
theorem mw_632 : .static ⟨"java/lang/Character", "highSurrogate", "(I)C"⟩ ∈ UW := uw_2_5 (List.mem_of_getElem? (i := 13) rfl) rfl
theorem mw_633 : .code ⟨"java/lang/Character", "highSurrogate", "(I)C"⟩ prog_15_method_28_code 1 (some .char) ∈ UW := uw_2_5 (List.mem_of_getElem? (i := 14) rfl) rfl
theorem mw_634 : .constant "java/lang/Character" 110 (55232) ∈ UW := uw_2_5 (List.mem_of_getElem? (i := 15) rfl) rfl
theorem mw_635 : .methodLink "java/lang/StringUTF16" 161 ⟨"java/lang/Character", "lowSurrogate", "(I)C"⟩ ∈ UW := uw_2_6 (List.mem_of_getElem? (i := 0) rfl) rfl
theorem mw_636 : .static ⟨"java/lang/Character", "lowSurrogate", "(I)C"⟩ ∈ UW := uw_2_6 (List.mem_of_getElem? (i := 1) rfl) rfl
theorem mw_637 : .code ⟨"java/lang/Character", "lowSurrogate", "(I)C"⟩ prog_15_method_29_code 1 (some .char) ∈ UW := uw_2_6 (List.mem_of_getElem? (i := 2) rfl) rfl
theorem mw_638 : .constant "java/lang/Character" 76 (56320) ∈ UW := uw_2_6 (List.mem_of_getElem? (i := 3) rfl) rfl
theorem mw_639 : .methodLink "PlainOrigin$Request" 68 ⟨"PlainOrigin$Text", "isVersion", "(LPlainOrigin$Bytes;II)Z"⟩ ∈ UW := uw_2_6 (List.mem_of_getElem? (i := 4) rfl) rfl
theorem mw_640 : .static ⟨"PlainOrigin$Text", "isVersion", "(LPlainOrigin$Bytes;II)Z"⟩ ∈ UW := uw_2_6 (List.mem_of_getElem? (i := 5) rfl) rfl
theorem mw_641 : .code ⟨"PlainOrigin$Text", "isVersion", "(LPlainOrigin$Bytes;II)Z"⟩ prog_12_method_16_code 3 (some .boolean) ∈ UW := uw_2_6 (List.mem_of_getElem? (i := 6) rfl) rfl
theorem mw_643 : .methodLink "PlainOrigin$Text" 57 ⟨"PlainOrigin$Text", "isExactly", "(LPlainOrigin$Bytes;IILjava/lang/String;)Z"⟩ ∈ UW := uw_2_6 (List.mem_of_getElem? (i := 8) rfl) rfl
theorem mw_644 : .static ⟨"PlainOrigin$Text", "isExactly", "(LPlainOrigin$Bytes;IILjava/lang/String;)Z"⟩ ∈ UW := uw_2_6 (List.mem_of_getElem? (i := 9) rfl) rfl
theorem mw_645 : .code ⟨"PlainOrigin$Text", "isExactly", "(LPlainOrigin$Bytes;IILjava/lang/String;)Z"⟩ prog_12_method_11_code 5 (some .boolean) ∈ UW := uw_2_6 (List.mem_of_getElem? (i := 10) rfl) rfl
theorem mw_646 : .methodLink "PlainOrigin$Text" 29 ⟨"java/lang/String", "length", "()I"⟩ ∈ UW := uw_2_6 (List.mem_of_getElem? (i := 11) rfl) rfl
theorem mw_647 : .methodLink "PlainOrigin$Text" 33 ⟨"java/lang/String", "charAt", "(I)C"⟩ ∈ UW := uw_2_6 (List.mem_of_getElem? (i := 12) rfl) rfl
theorem mw_648 : .instanceMethod ⟨"java/lang/String", "charAt", "(I)C"⟩ ∈ UW := uw_2_6 (List.mem_of_getElem? (i := 13) rfl) rfl
theorem mw_649 : .selects "java/lang/String" ⟨"java/lang/String", "charAt", "(I)C"⟩ ⟨"java/lang/String", "charAt", "(I)C"⟩ ∈ UW := uw_2_6 (List.mem_of_getElem? (i := 14) rfl) rfl
theorem mw_650 : .code ⟨"java/lang/String", "charAt", "(I)C"⟩ prog_22_method_56_code 2 (some .char) ∈ UW := uw_2_6 (List.mem_of_getElem? (i := 15) rfl) rfl
theorem mw_651 : .methodLink "java/lang/String" 495 ⟨"java/lang/StringLatin1", "charAt", "([BI)C"⟩ ∈ UW := uw_2_7 (List.mem_of_getElem? (i := 0) rfl) rfl
theorem mw_652 : .static ⟨"java/lang/StringLatin1", "charAt", "([BI)C"⟩ ∈ UW := uw_2_7 (List.mem_of_getElem? (i := 1) rfl) rfl
theorem mw_653 : .code ⟨"java/lang/StringLatin1", "charAt", "([BI)C"⟩ prog_23_method_2_code 2 (some .char) ∈ UW := uw_2_7 (List.mem_of_getElem? (i := 2) rfl) rfl
theorem mw_654 : .methodLink "java/lang/StringLatin1" 9 ⟨"java/lang/String", "checkIndex", "(II)V"⟩ ∈ UW := uw_2_7 (List.mem_of_getElem? (i := 3) rfl) rfl
theorem mw_655 : .static ⟨"java/lang/String", "checkIndex", "(II)V"⟩ ∈ UW := uw_2_7 (List.mem_of_getElem? (i := 4) rfl) rfl
theorem mw_656 : .code ⟨"java/lang/String", "checkIndex", "(II)V"⟩ prog_22_method_155_code 2 none ∈ UW := uw_2_7 (List.mem_of_getElem? (i := 5) rfl) rfl
theorem mw_657 : .methodLink "java/lang/String" 1059 ⟨"jdk/internal/util/Preconditions", "checkIndex", "(IILjava/util/function/BiFunction;)I"⟩ ∈ UW := uw_2_7 (List.mem_of_getElem? (i := 6) rfl) rfl
theorem mw_658 : .static ⟨"jdk/internal/util/Preconditions", "checkIndex", "(IILjava/util/function/BiFunction;)I"⟩ ∈ UW := uw_2_7 (List.mem_of_getElem? (i := 7) rfl) rfl
theorem mw_659 : .code ⟨"jdk/internal/util/Preconditions", "checkIndex", "(IILjava/util/function/BiFunction;)I"⟩ prog_27_method_11_code 3 (some .int) ∈ UW := uw_2_7 (List.mem_of_getElem? (i := 8) rfl) rfl
theorem mw_660 : .methodLink "java/lang/String" 498 ⟨"java/lang/StringUTF16", "charAt", "([BI)C"⟩ ∈ UW := uw_2_7 (List.mem_of_getElem? (i := 9) rfl) rfl
theorem mw_661 : .static ⟨"java/lang/StringUTF16", "charAt", "([BI)C"⟩ ∈ UW := uw_2_7 (List.mem_of_getElem? (i := 10) rfl) rfl
theorem mw_662 : .code ⟨"java/lang/StringUTF16", "charAt", "([BI)C"⟩ prog_24_method_83_code 2 (some .char) ∈ UW := uw_2_7 (List.mem_of_getElem? (i := 11) rfl) rfl
theorem mw_663 : .methodLink "java/lang/StringUTF16" 67 ⟨"java/lang/StringUTF16", "checkIndex", "(I[B)V"⟩ ∈ UW := uw_2_7 (List.mem_of_getElem? (i := 12) rfl) rfl
theorem mw_664 : .static ⟨"java/lang/StringUTF16", "checkIndex", "(I[B)V"⟩ ∈ UW := uw_2_7 (List.mem_of_getElem? (i := 13) rfl) rfl
theorem mw_665 : .code ⟨"java/lang/StringUTF16", "checkIndex", "(I[B)V"⟩ prog_24_method_91_code 2 none ∈ UW := uw_2_7 (List.mem_of_getElem? (i := 14) rfl) rfl
theorem mw_666 : .methodLink "java/lang/StringUTF16" 414 ⟨"java/lang/String", "checkIndex", "(II)V"⟩ ∈ UW := uw_2_7 (List.mem_of_getElem? (i := 15) rfl) rfl
theorem mw_667 : .methodLink "PlainOrigin$Request" 71 ⟨"PlainOrigin$Text", "isTarget", "(LPlainOrigin$Bytes;II)Z"⟩ ∈ UW := uw_2_8 (List.mem_of_getElem? (i := 0) rfl) rfl
theorem mw_668 : .static ⟨"PlainOrigin$Text", "isTarget", "(LPlainOrigin$Bytes;II)Z"⟩ ∈ UW := uw_2_8 (List.mem_of_getElem? (i := 1) rfl) rfl
theorem mw_669 : .code ⟨"PlainOrigin$Text", "isTarget", "(LPlainOrigin$Bytes;II)Z"⟩ prog_12_method_14_code 6 (some .boolean) ∈ UW := uw_2_8 (List.mem_of_getElem? (i := 2) rfl) rfl
theorem mw_670 : .methodLink "PlainOrigin$Text" 46 ⟨"PlainOrigin$Text", "isEscape", "(LPlainOrigin$Bytes;II)Z"⟩ ∈ UW := uw_2_8 (List.mem_of_getElem? (i := 3) rfl) rfl
theorem mw_671 : .static ⟨"PlainOrigin$Text", "isEscape", "(LPlainOrigin$Bytes;II)Z"⟩ ∈ UW := uw_2_8 (List.mem_of_getElem? (i := 4) rfl) rfl
theorem mw_672 : .code ⟨"PlainOrigin$Text", "isEscape", "(LPlainOrigin$Bytes;II)Z"⟩ prog_12_method_15_code 3 (some .boolean) ∈ UW := uw_2_8 (List.mem_of_getElem? (i := 5) rfl) rfl
theorem mw_673 : .methodLink "PlainOrigin$Text" 52 ⟨"PlainOrigin$Text", "hexDigit", "(I)I"⟩ ∈ UW := uw_2_8 (List.mem_of_getElem? (i := 6) rfl) rfl
theorem mw_674 : .static ⟨"PlainOrigin$Text", "hexDigit", "(I)I"⟩ ∈ UW := uw_2_8 (List.mem_of_getElem? (i := 7) rfl) rfl
theorem mw_675 : .code ⟨"PlainOrigin$Text", "hexDigit", "(I)I"⟩ prog_12_method_7_code 1 (some .int) ∈ UW := uw_2_8 (List.mem_of_getElem? (i := 8) rfl) rfl
theorem mw_677 : .methodLink "PlainOrigin$Request" 74 ⟨"PlainOrigin$Bytes", "get", "(I)I"⟩ ∈ UW := uw_2_8 (List.mem_of_getElem? (i := 10) rfl) rfl
theorem mw_678 : .methodLink "PlainOrigin$Request" 78 ⟨"PlainOrigin$Method", "find", "(LPlainOrigin$Bytes;II)LPlainOrigin$Method;"⟩ ∈ UW := uw_2_8 (List.mem_of_getElem? (i := 11) rfl) rfl
theorem mw_679 : .static ⟨"PlainOrigin$Method", "find", "(LPlainOrigin$Bytes;II)LPlainOrigin$Method;"⟩ ∈ UW := uw_2_8 (List.mem_of_getElem? (i := 12) rfl) rfl
theorem mw_680 : .code ⟨"PlainOrigin$Method", "find", "(LPlainOrigin$Bytes;II)LPlainOrigin$Method;"⟩ prog_5_method_4_code 4 (some (.object "PlainOrigin$Method")) ∈ UW := uw_2_8 (List.mem_of_getElem? (i := 13) rfl) rfl
theorem mw_683 : .methodLink "PlainOrigin$Method" 53 ⟨"PlainOrigin$Text", "isExactly", "(LPlainOrigin$Bytes;IILjava/lang/String;)Z"⟩ ∈ UW := uw_2_9 (List.mem_of_getElem? (i := 0) rfl) rfl
theorem mw_684 : .fieldLink "PlainOrigin$Request" 83 "PlainOrigin$Method" "OPTIONS" "LPlainOrigin$Method;" ∈ UW := uw_2_9 (List.mem_of_getElem? (i := 1) rfl) rfl
theorem mw_687 : .methodLink "PlainOrigin$Request" 88 ⟨"PlainOrigin$Text", "isExactly", "(LPlainOrigin$Bytes;IILjava/lang/String;)Z"⟩ ∈ UW := uw_2_9 (List.mem_of_getElem? (i := 4) rfl) rfl
theorem mw_688 : .methodLink "PlainOrigin$Request" 92 ⟨"PlainOrigin$Request", "takePath", "(LPlainOrigin$Bytes;II)V"⟩ ∈ UW := uw_2_9 (List.mem_of_getElem? (i := 5) rfl) rfl
theorem mw_690 : .instanceMethod ⟨"PlainOrigin$Request", "takePath", "(LPlainOrigin$Bytes;II)V"⟩ ∈ UW := uw_2_9 (List.mem_of_getElem? (i := 7) rfl) rfl
theorem mw_691 : .code ⟨"PlainOrigin$Request", "takePath", "(LPlainOrigin$Bytes;II)V"⟩ prog_9_method_5_code 6 none ∈ UW := uw_2_9 (List.mem_of_getElem? (i := 8) rfl) rfl
theorem mw_692 : .methodLink "PlainOrigin$Request" 96 ⟨"PlainOrigin$Text", "hexDigit", "(I)I"⟩ ∈ UW := uw_2_9 (List.mem_of_getElem? (i := 9) rfl) rfl
theorem mw_693 : .methodLink "PlainOrigin$Request" 99 ⟨"PlainOrigin$Bytes", "add", "(I)V"⟩ ∈ UW := uw_2_9 (List.mem_of_getElem? (i := 10) rfl) rfl
theorem mw_694 : .methodLink "PlainOrigin$Reader" 78 ⟨"PlainOrigin$Fields", "take", "(LPlainOrigin$Bytes;)I"⟩ ∈ UW := uw_2_9 (List.mem_of_getElem? (i := 11) rfl) rfl
theorem mw_695 : .instanceMethod ⟨"PlainOrigin$Fields", "take", "(LPlainOrigin$Bytes;)I"⟩ ∈ UW := uw_2_9 (List.mem_of_getElem? (i := 12) rfl) rfl
theorem mw_696 : .selects "PlainOrigin$Fields" ⟨"PlainOrigin$Fields", "take", "(LPlainOrigin$Bytes;)I"⟩ ⟨"PlainOrigin$Fields", "take", "(LPlainOrigin$Bytes;)I"⟩ ∈ UW := uw_2_9 (List.mem_of_getElem? (i := 13) rfl) rfl
theorem mw_697 : .code ⟨"PlainOrigin$Fields", "take", "(LPlainOrigin$Bytes;)I"⟩ prog_4_method_3_code 5 (some .int) ∈ UW := uw_2_9 (List.mem_of_getElem? (i := 14) rfl) rfl
theorem mw_698 : .methodLink "PlainOrigin$Fields" 49 ⟨"PlainOrigin$Text", "colonOf", "(LPlainOrigin$Bytes;)I"⟩ ∈ UW := uw_2_9 (List.mem_of_getElem? (i := 15) rfl) rfl
theorem mw_699 : .static ⟨"PlainOrigin$Text", "colonOf", "(LPlainOrigin$Bytes;)I"⟩ ∈ UW := uw_2_10 (List.mem_of_getElem? (i := 0) rfl) rfl
theorem mw_700 : .code ⟨"PlainOrigin$Text", "colonOf", "(LPlainOrigin$Bytes;)I"⟩ prog_12_method_19_code 4 (some .int) ∈ UW := uw_2_10 (List.mem_of_getElem? (i := 1) rfl) rfl
theorem mw_701 : .methodLink "PlainOrigin$Text" 70 ⟨"PlainOrigin$Text", "find", "(LPlainOrigin$Bytes;III)I"⟩ ∈ UW := uw_2_10 (List.mem_of_getElem? (i := 2) rfl) rfl
theorem mw_702 : .methodLink "PlainOrigin$Text" 74 ⟨"PlainOrigin$Text", "isToken", "(LPlainOrigin$Bytes;II)Z"⟩ ∈ UW := uw_2_10 (List.mem_of_getElem? (i := 3) rfl) rfl
theorem mw_703 : .methodLink "PlainOrigin$Text" 77 ⟨"PlainOrigin$Text", "hasControl", "(LPlainOrigin$Bytes;II)Z"⟩ ∈ UW := uw_2_10 (List.mem_of_getElem? (i := 4) rfl) rfl
theorem mw_704 : .static ⟨"PlainOrigin$Text", "hasControl", "(LPlainOrigin$Bytes;II)Z"⟩ ∈ UW := uw_2_10 (List.mem_of_getElem? (i := 5) rfl) rfl
theorem mw_705 : .code ⟨"PlainOrigin$Text", "hasControl", "(LPlainOrigin$Bytes;II)Z"⟩ prog_12_method_18_code 4 (some .boolean) ∈ UW := uw_2_10 (List.mem_of_getElem? (i := 6) rfl) rfl
theorem mw_706 : .methodLink "PlainOrigin$Text" 63 ⟨"PlainOrigin$Text", "isControl", "(I)Z"⟩ ∈ UW := uw_2_10 (List.mem_of_getElem? (i := 7) rfl) rfl
theorem mw_707 : .static ⟨"PlainOrigin$Text", "isControl", "(I)Z"⟩ ∈ UW := uw_2_10 (List.mem_of_getElem? (i := 8) rfl) rfl
theorem mw_708 : .code ⟨"PlainOrigin$Text", "isControl", "(I)Z"⟩ prog_12_method_5_code 1 (some .boolean) ∈ UW := uw_2_10 (List.mem_of_getElem? (i := 9) rfl) rfl
theorem mw_709 : .methodLink "PlainOrigin$Fields" 58 ⟨"PlainOrigin$Bytes", "addAll", "(LPlainOrigin$Bytes;)V"⟩ ∈ UW := uw_2_10 (List.mem_of_getElem? (i := 10) rfl) rfl
theorem mw_710 : .instanceMethod ⟨"PlainOrigin$Bytes", "addAll", "(LPlainOrigin$Bytes;)V"⟩ ∈ UW := uw_2_10 (List.mem_of_getElem? (i := 11) rfl) rfl
theorem mw_711 : .selects "PlainOrigin$Bytes" ⟨"PlainOrigin$Bytes", "addAll", "(LPlainOrigin$Bytes;)V"⟩ ⟨"PlainOrigin$Bytes", "addAll", "(LPlainOrigin$Bytes;)V"⟩ ∈ UW := uw_2_10 (List.mem_of_getElem? (i := 12) rfl) rfl
theorem mw_712 : .code ⟨"PlainOrigin$Bytes", "addAll", "(LPlainOrigin$Bytes;)V"⟩ prog_3_method_4_code 3 none ∈ UW := uw_2_10 (List.mem_of_getElem? (i := 13) rfl) rfl
theorem mw_713 : .methodLink "PlainOrigin$Bytes" 19 ⟨"PlainOrigin$Bytes", "get", "(I)I"⟩ ∈ UW := uw_2_10 (List.mem_of_getElem? (i := 14) rfl) rfl
theorem mw_714 : .methodLink "PlainOrigin$Bytes" 23 ⟨"PlainOrigin$Bytes", "add", "(I)V"⟩ ∈ UW := uw_2_10 (List.mem_of_getElem? (i := 15) rfl) rfl
theorem mw_715 : .methodLink "PlainOrigin$Fields" 62 ⟨"PlainOrigin$Text", "skipBlanks", "(LPlainOrigin$Bytes;II)I"⟩ ∈ UW := uw_2_11 (List.mem_of_getElem? (i := 0) rfl) rfl
theorem mw_716 : .static ⟨"PlainOrigin$Text", "skipBlanks", "(LPlainOrigin$Bytes;II)I"⟩ ∈ UW := uw_2_11 (List.mem_of_getElem? (i := 1) rfl) rfl
theorem mw_717 : .code ⟨"PlainOrigin$Text", "skipBlanks", "(LPlainOrigin$Bytes;II)I"⟩ prog_12_method_9_code 4 (some .int) ∈ UW := uw_2_11 (List.mem_of_getElem? (i := 2) rfl) rfl
theorem mw_718 : .methodLink "PlainOrigin$Text" 26 ⟨"PlainOrigin$Text", "isBlank", "(I)Z"⟩ ∈ UW := uw_2_11 (List.mem_of_getElem? (i := 3) rfl) rfl
theorem mw_719 : .static ⟨"PlainOrigin$Text", "isBlank", "(I)Z"⟩ ∈ UW := uw_2_11 (List.mem_of_getElem? (i := 4) rfl) rfl
theorem mw_720 : .code ⟨"PlainOrigin$Text", "isBlank", "(I)Z"⟩ prog_12_method_4_code 1 (some .boolean) ∈ UW := uw_2_11 (List.mem_of_getElem? (i := 5) rfl) rfl
theorem mw_721 : .methodLink "PlainOrigin$Fields" 66 ⟨"PlainOrigin$Text", "dropBlanks", "(LPlainOrigin$Bytes;II)I"⟩ ∈ UW := uw_2_11 (List.mem_of_getElem? (i := 6) rfl) rfl
theorem mw_722 : .static ⟨"PlainOrigin$Text", "dropBlanks", "(LPlainOrigin$Bytes;II)I"⟩ ∈ UW := uw_2_11 (List.mem_of_getElem? (i := 7) rfl) rfl
theorem mw_723 : .code ⟨"PlainOrigin$Text", "dropBlanks", "(LPlainOrigin$Bytes;II)I"⟩ prog_12_method_10_code 4 (some .int) ∈ UW := uw_2_11 (List.mem_of_getElem? (i := 8) rfl) rfl
theorem mw_724 : .methodLink "PlainOrigin$Reader" 84 ⟨"PlainOrigin$Reader", "endChunkLine", "()I"⟩ ∈ UW := uw_2_11 (List.mem_of_getElem? (i := 9) rfl) rfl
theorem mw_726 : .instanceMethod ⟨"PlainOrigin$Reader", "endChunkLine", "()I"⟩ ∈ UW := uw_2_11 (List.mem_of_getElem? (i := 11) rfl) rfl
theorem mw_727 : .code ⟨"PlainOrigin$Reader", "endChunkLine", "()I"⟩ prog_8_method_10_code 2 (some .int) ∈ UW := uw_2_11 (List.mem_of_getElem? (i := 12) rfl) rfl
theorem mw_728 : .methodLink "PlainOrigin$Reader" 93 ⟨"PlainOrigin$Text", "chunkSize", "(LPlainOrigin$Bytes;)I"⟩ ∈ UW := uw_2_11 (List.mem_of_getElem? (i := 13) rfl) rfl
theorem mw_729 : .static ⟨"PlainOrigin$Text", "chunkSize", "(LPlainOrigin$Bytes;)I"⟩ ∈ UW := uw_2_11 (List.mem_of_getElem? (i := 14) rfl) rfl
theorem mw_730 : .code ⟨"PlainOrigin$Text", "chunkSize", "(LPlainOrigin$Bytes;)I"⟩ prog_12_method_21_code 5 (some .int) ∈ UW := uw_2_11 (List.mem_of_getElem? (i := 15) rfl) rfl
theorem mw_731 : .methodLink "PlainOrigin$Reader" 87 ⟨"PlainOrigin$Reader", "endTrailer", "()I"⟩ ∈ UW := uw_2_12 (List.mem_of_getElem? (i := 0) rfl) rfl
theorem mw_733 : .instanceMethod ⟨"PlainOrigin$Reader", "endTrailer", "()I"⟩ ∈ UW := uw_2_12 (List.mem_of_getElem? (i := 2) rfl) rfl
theorem mw_734 : .code ⟨"PlainOrigin$Reader", "endTrailer", "()I"⟩ prog_8_method_11_code 1 (some .int) ∈ UW := uw_2_12 (List.mem_of_getElem? (i := 3) rfl) rfl
theorem mw_735 : .methodLink "PlainOrigin$Reader" 98 ⟨"PlainOrigin$Text", "colonOf", "(LPlainOrigin$Bytes;)I"⟩ ∈ UW := uw_2_12 (List.mem_of_getElem? (i := 4) rfl) rfl
theorem mw_736 : .methodLink "PlainOrigin" 56 ⟨"PlainOrigin$Reader", "endHead", "()I"⟩ ∈ UW := uw_2_12 (List.mem_of_getElem? (i := 5) rfl) rfl
theorem mw_737 : .instanceMethod ⟨"PlainOrigin$Reader", "endHead", "()I"⟩ ∈ UW := uw_2_12 (List.mem_of_getElem? (i := 6) rfl) rfl
theorem mw_738 : .selects "PlainOrigin$Reader" ⟨"PlainOrigin$Reader", "endHead", "()I"⟩ ⟨"PlainOrigin$Reader", "endHead", "()I"⟩ ∈ UW := uw_2_12 (List.mem_of_getElem? (i := 7) rfl) rfl
theorem mw_739 : .code ⟨"PlainOrigin$Reader", "endHead", "()I"⟩ prog_8_method_12_code 2 (some .int) ∈ UW := uw_2_12 (List.mem_of_getElem? (i := 8) rfl) rfl
theorem mw_740 : .methodLink "PlainOrigin$Reader" 101 ⟨"PlainOrigin$Request", "checkHost", "()I"⟩ ∈ UW := uw_2_12 (List.mem_of_getElem? (i := 9) rfl) rfl
theorem mw_741 : .instanceMethod ⟨"PlainOrigin$Request", "checkHost", "()I"⟩ ∈ UW := uw_2_12 (List.mem_of_getElem? (i := 10) rfl) rfl
theorem mw_742 : .selects "PlainOrigin$Request" ⟨"PlainOrigin$Request", "checkHost", "()I"⟩ ⟨"PlainOrigin$Request", "checkHost", "()I"⟩ ∈ UW := uw_2_12 (List.mem_of_getElem? (i := 11) rfl) rfl
theorem mw_743 : .code ⟨"PlainOrigin$Request", "checkHost", "()I"⟩ prog_9_method_6_code 4 (some .int) ∈ UW := uw_2_12 (List.mem_of_getElem? (i := 12) rfl) rfl
theorem mw_745 : .methodLink "PlainOrigin$Request" 104 ⟨"PlainOrigin$Fields", "countOf", "(Ljava/lang/String;)I"⟩ ∈ UW := uw_2_12 (List.mem_of_getElem? (i := 14) rfl) rfl
theorem mw_746 : .instanceMethod ⟨"PlainOrigin$Fields", "countOf", "(Ljava/lang/String;)I"⟩ ∈ UW := uw_2_12 (List.mem_of_getElem? (i := 15) rfl) rfl
theorem mw_747 : .selects "PlainOrigin$Fields" ⟨"PlainOrigin$Fields", "countOf", "(Ljava/lang/String;)I"⟩ ⟨"PlainOrigin$Fields", "countOf", "(Ljava/lang/String;)I"⟩ ∈ UW := uw_2_13 (List.mem_of_getElem? (i := 0) rfl) rfl
theorem mw_748 : .code ⟨"PlainOrigin$Fields", "countOf", "(Ljava/lang/String;)I"⟩ prog_4_method_4_code 4 (some .int) ∈ UW := uw_2_13 (List.mem_of_getElem? (i := 1) rfl) rfl
theorem mw_749 : .methodLink "PlainOrigin$Fields" 69 ⟨"PlainOrigin$Text", "isWord", "(LPlainOrigin$Bytes;IILjava/lang/String;)Z"⟩ ∈ UW := uw_2_13 (List.mem_of_getElem? (i := 2) rfl) rfl
theorem mw_750 : .static ⟨"PlainOrigin$Text", "isWord", "(LPlainOrigin$Bytes;IILjava/lang/String;)Z"⟩ ∈ UW := uw_2_13 (List.mem_of_getElem? (i := 3) rfl) rfl
theorem mw_751 : .code ⟨"PlainOrigin$Text", "isWord", "(LPlainOrigin$Bytes;IILjava/lang/String;)Z"⟩ prog_12_method_12_code 5 (some .boolean) ∈ UW := uw_2_13 (List.mem_of_getElem? (i := 4) rfl) rfl
theorem mw_752 : .methodLink "PlainOrigin$Text" 37 ⟨"PlainOrigin$Text", "lower", "(I)I"⟩ ∈ UW := uw_2_13 (List.mem_of_getElem? (i := 5) rfl) rfl
theorem mw_753 : .static ⟨"PlainOrigin$Text", "lower", "(I)I"⟩ ∈ UW := uw_2_13 (List.mem_of_getElem? (i := 6) rfl) rfl
theorem mw_754 : .code ⟨"PlainOrigin$Text", "lower", "(I)I"⟩ prog_12_method_6_code 1 (some .int) ∈ UW := uw_2_13 (List.mem_of_getElem? (i := 7) rfl) rfl
theorem mw_755 : .methodLink "PlainOrigin$Request" 108 ⟨"PlainOrigin$Request", "isOld", "()Z"⟩ ∈ UW := uw_2_13 (List.mem_of_getElem? (i := 8) rfl) rfl
theorem mw_756 : .instanceMethod ⟨"PlainOrigin$Request", "isOld", "()Z"⟩ ∈ UW := uw_2_13 (List.mem_of_getElem? (i := 9) rfl) rfl
theorem mw_757 : .selects "PlainOrigin$Request" ⟨"PlainOrigin$Request", "isOld", "()Z"⟩ ⟨"PlainOrigin$Request", "isOld", "()Z"⟩ ∈ UW := uw_2_13 (List.mem_of_getElem? (i := 10) rfl) rfl
theorem mw_758 : .code ⟨"PlainOrigin$Request", "isOld", "()Z"⟩ prog_9_method_3_code 1 (some .boolean) ∈ UW := uw_2_13 (List.mem_of_getElem? (i := 11) rfl) rfl
theorem mw_759 : .methodLink "PlainOrigin$Request" 112 ⟨"PlainOrigin$Fields", "indexOf", "(Ljava/lang/String;)I"⟩ ∈ UW := uw_2_13 (List.mem_of_getElem? (i := 12) rfl) rfl
theorem mw_760 : .instanceMethod ⟨"PlainOrigin$Fields", "indexOf", "(Ljava/lang/String;)I"⟩ ∈ UW := uw_2_13 (List.mem_of_getElem? (i := 13) rfl) rfl
theorem mw_761 : .selects "PlainOrigin$Fields" ⟨"PlainOrigin$Fields", "indexOf", "(Ljava/lang/String;)I"⟩ ⟨"PlainOrigin$Fields", "indexOf", "(Ljava/lang/String;)I"⟩ ∈ UW := uw_2_13 (List.mem_of_getElem? (i := 14) rfl) rfl
theorem mw_762 : .code ⟨"PlainOrigin$Fields", "indexOf", "(Ljava/lang/String;)I"⟩ prog_4_method_5_code 3 (some .int) ∈ UW := uw_2_13 (List.mem_of_getElem? (i := 15) rfl) rfl
theorem mw_763 : .methodLink "PlainOrigin$Request" 125 ⟨"PlainOrigin$Text", "isHost", "(LPlainOrigin$Bytes;II)Z"⟩ ∈ UW := uw_2_14 (List.mem_of_getElem? (i := 0) rfl) rfl
theorem mw_764 : .static ⟨"PlainOrigin$Text", "isHost", "(LPlainOrigin$Bytes;II)Z"⟩ ∈ UW := uw_2_14 (List.mem_of_getElem? (i := 1) rfl) rfl
theorem mw_765 : .code ⟨"PlainOrigin$Text", "isHost", "(LPlainOrigin$Bytes;II)Z"⟩ prog_12_method_17_code 4 (some .boolean) ∈ UW := uw_2_14 (List.mem_of_getElem? (i := 2) rfl) rfl
theorem mw_767 : .methodLink "PlainOrigin$Reader" 104 ⟨"PlainOrigin$Request", "checkTransferEncoding", "()I"⟩ ∈ UW := uw_2_14 (List.mem_of_getElem? (i := 4) rfl) rfl
theorem mw_768 : .instanceMethod ⟨"PlainOrigin$Request", "checkTransferEncoding", "()I"⟩ ∈ UW := uw_2_14 (List.mem_of_getElem? (i := 5) rfl) rfl
theorem mw_769 : .selects "PlainOrigin$Request" ⟨"PlainOrigin$Request", "checkTransferEncoding", "()I"⟩ ⟨"PlainOrigin$Request", "checkTransferEncoding", "()I"⟩ ∈ UW := uw_2_14 (List.mem_of_getElem? (i := 6) rfl) rfl
theorem mw_770 : .code ⟨"PlainOrigin$Request", "checkTransferEncoding", "()I"⟩ prog_9_method_7_code 2 (some .int) ∈ UW := uw_2_14 (List.mem_of_getElem? (i := 7) rfl) rfl
theorem mw_773 : .methodLink "PlainOrigin$Request" 132 ⟨"PlainOrigin$Fields", "gather", "(Ljava/lang/String;)I"⟩ ∈ UW := uw_2_14 (List.mem_of_getElem? (i := 10) rfl) rfl
theorem mw_774 : .instanceMethod ⟨"PlainOrigin$Fields", "gather", "(Ljava/lang/String;)I"⟩ ∈ UW := uw_2_14 (List.mem_of_getElem? (i := 11) rfl) rfl
theorem mw_775 : .selects "PlainOrigin$Fields" ⟨"PlainOrigin$Fields", "gather", "(Ljava/lang/String;)I"⟩ ⟨"PlainOrigin$Fields", "gather", "(Ljava/lang/String;)I"⟩ ∈ UW := uw_2_14 (List.mem_of_getElem? (i := 12) rfl) rfl
theorem mw_776 : .code ⟨"PlainOrigin$Fields", "gather", "(Ljava/lang/String;)I"⟩ prog_4_method_6_code 3 (some .int) ∈ UW := uw_2_14 (List.mem_of_getElem? (i := 13) rfl) rfl
theorem mw_777 : .methodLink "PlainOrigin$Fields" 73 ⟨"PlainOrigin$Fields", "cut", "(II)V"⟩ ∈ UW := uw_2_14 (List.mem_of_getElem? (i := 14) rfl) rfl
theorem mw_779 : .instanceMethod ⟨"PlainOrigin$Fields", "cut", "(II)V"⟩ ∈ UW := uw_3_0 (List.mem_of_getElem? (i := 0) rfl) rfl
theorem mw_780 : .code ⟨"PlainOrigin$Fields", "cut", "(II)V"⟩ prog_4_method_7_code 7 none ∈ UW := uw_3_0 (List.mem_of_getElem? (i := 1) rfl) rfl
theorem mw_781 : .methodLink "PlainOrigin$Fields" 77 ⟨"PlainOrigin$Bytes", "get", "(I)I"⟩ ∈ UW := uw_3_0 (List.mem_of_getElem? (i := 2) rfl) rfl
theorem mw_782 : .methodLink "PlainOrigin$Fields" 81 ⟨"PlainOrigin$Fields", "keepElement", "(II)V"⟩ ∈ UW := uw_3_0 (List.mem_of_getElem? (i := 3) rfl) rfl
theorem mw_784 : .instanceMethod ⟨"PlainOrigin$Fields", "keepElement", "(II)V"⟩ ∈ UW := uw_3_0 (List.mem_of_getElem? (i := 5) rfl) rfl
theorem mw_785 : .code ⟨"PlainOrigin$Fields", "keepElement", "(II)V"⟩ prog_4_method_8_code 3 none ∈ UW := uw_3_0 (List.mem_of_getElem? (i := 6) rfl) rfl
theorem mw_786 : .methodLink "PlainOrigin$Fields" 84 ⟨"PlainOrigin$Text", "isBlank", "(I)Z"⟩ ∈ UW := uw_3_0 (List.mem_of_getElem? (i := 7) rfl) rfl
theorem mw_788 : .methodLink "PlainOrigin$Request" 137 ⟨"PlainOrigin$Fields", "elementIs", "(ILjava/lang/String;)Z"⟩ ∈ UW := uw_3_0 (List.mem_of_getElem? (i := 9) rfl) rfl
theorem mw_789 : .instanceMethod ⟨"PlainOrigin$Fields", "elementIs", "(ILjava/lang/String;)Z"⟩ ∈ UW := uw_3_0 (List.mem_of_getElem? (i := 10) rfl) rfl
theorem mw_790 : .selects "PlainOrigin$Fields" ⟨"PlainOrigin$Fields", "elementIs", "(ILjava/lang/String;)Z"⟩ ⟨"PlainOrigin$Fields", "elementIs", "(ILjava/lang/String;)Z"⟩ ∈ UW := uw_3_0 (List.mem_of_getElem? (i := 11) rfl) rfl
theorem mw_791 : .code ⟨"PlainOrigin$Fields", "elementIs", "(ILjava/lang/String;)Z"⟩ prog_4_method_9_code 3 (some .boolean) ∈ UW := uw_3_0 (List.mem_of_getElem? (i := 12) rfl) rfl
theorem mw_792 : .methodLink "PlainOrigin$Reader" 107 ⟨"PlainOrigin$Request", "checkContentLength", "()I"⟩ ∈ UW := uw_3_0 (List.mem_of_getElem? (i := 13) rfl) rfl
theorem mw_793 : .instanceMethod ⟨"PlainOrigin$Request", "checkContentLength", "()I"⟩ ∈ UW := uw_3_0 (List.mem_of_getElem? (i := 14) rfl) rfl
theorem mw_794 : .selects "PlainOrigin$Request" ⟨"PlainOrigin$Request", "checkContentLength", "()I"⟩ ⟨"PlainOrigin$Request", "checkContentLength", "()I"⟩ ∈ UW := uw_3_0 (List.mem_of_getElem? (i := 15) rfl) rfl
theorem mw_795 : .code ⟨"PlainOrigin$Request", "checkContentLength", "()I"⟩ prog_9_method_8_code 4 (some .int) ∈ UW := uw_3_1 (List.mem_of_getElem? (i := 0) rfl) rfl
theorem mw_796 : .methodLink "PlainOrigin$Request" 141 ⟨"PlainOrigin$Fields", "elementNumber", "(I)I"⟩ ∈ UW := uw_3_1 (List.mem_of_getElem? (i := 1) rfl) rfl
theorem mw_797 : .instanceMethod ⟨"PlainOrigin$Fields", "elementNumber", "(I)I"⟩ ∈ UW := uw_3_1 (List.mem_of_getElem? (i := 2) rfl) rfl
theorem mw_798 : .selects "PlainOrigin$Fields" ⟨"PlainOrigin$Fields", "elementNumber", "(I)I"⟩ ⟨"PlainOrigin$Fields", "elementNumber", "(I)I"⟩ ∈ UW := uw_3_1 (List.mem_of_getElem? (i := 3) rfl) rfl
theorem mw_799 : .code ⟨"PlainOrigin$Fields", "elementNumber", "(I)I"⟩ prog_4_method_10_code 2 (some .int) ∈ UW := uw_3_1 (List.mem_of_getElem? (i := 4) rfl) rfl
theorem mw_800 : .methodLink "PlainOrigin$Fields" 88 ⟨"PlainOrigin$Text", "number", "(LPlainOrigin$Bytes;II)I"⟩ ∈ UW := uw_3_1 (List.mem_of_getElem? (i := 5) rfl) rfl
theorem mw_801 : .static ⟨"PlainOrigin$Text", "number", "(LPlainOrigin$Bytes;II)I"⟩ ∈ UW := uw_3_1 (List.mem_of_getElem? (i := 6) rfl) rfl
theorem mw_802 : .code ⟨"PlainOrigin$Text", "number", "(LPlainOrigin$Bytes;II)I"⟩ prog_12_method_20_code 6 (some .int) ∈ UW := uw_3_1 (List.mem_of_getElem? (i := 7) rfl) rfl
theorem mw_803 : .methodLink "PlainOrigin$Reader" 110 ⟨"PlainOrigin$Request", "checkExpect", "()I"⟩ ∈ UW := uw_3_1 (List.mem_of_getElem? (i := 8) rfl) rfl
theorem mw_804 : .instanceMethod ⟨"PlainOrigin$Request", "checkExpect", "()I"⟩ ∈ UW := uw_3_1 (List.mem_of_getElem? (i := 9) rfl) rfl
theorem mw_805 : .selects "PlainOrigin$Request" ⟨"PlainOrigin$Request", "checkExpect", "()I"⟩ ⟨"PlainOrigin$Request", "checkExpect", "()I"⟩ ∈ UW := uw_3_1 (List.mem_of_getElem? (i := 10) rfl) rfl
theorem mw_806 : .code ⟨"PlainOrigin$Request", "checkExpect", "()I"⟩ prog_9_method_9_code 3 (some .int) ∈ UW := uw_3_1 (List.mem_of_getElem? (i := 11) rfl) rfl
theorem mw_809 : .methodLink "PlainOrigin$Reader" 113 ⟨"PlainOrigin$Request", "readConnection", "()V"⟩ ∈ UW := uw_3_1 (List.mem_of_getElem? (i := 14) rfl) rfl
theorem mw_810 : .instanceMethod ⟨"PlainOrigin$Request", "readConnection", "()V"⟩ ∈ UW := uw_3_1 (List.mem_of_getElem? (i := 15) rfl) rfl
theorem mw_811 : .selects "PlainOrigin$Request" ⟨"PlainOrigin$Request", "readConnection", "()V"⟩ ⟨"PlainOrigin$Request", "readConnection", "()V"⟩ ∈ UW := uw_3_2 (List.mem_of_getElem? (i := 0) rfl) rfl
theorem mw_812 : .code ⟨"PlainOrigin$Request", "readConnection", "()V"⟩ prog_9_method_10_code 1 none ∈ UW := uw_3_2 (List.mem_of_getElem? (i := 1) rfl) rfl
theorem mw_815 : .methodLink "PlainOrigin$Request" 152 ⟨"PlainOrigin$Fields", "hasElement", "(Ljava/lang/String;Ljava/lang/String;)Z"⟩ ∈ UW := uw_3_2 (List.mem_of_getElem? (i := 4) rfl) rfl
theorem mw_816 : .instanceMethod ⟨"PlainOrigin$Fields", "hasElement", "(Ljava/lang/String;Ljava/lang/String;)Z"⟩ ∈ UW := uw_3_2 (List.mem_of_getElem? (i := 5) rfl) rfl
theorem mw_817 : .selects "PlainOrigin$Fields" ⟨"PlainOrigin$Fields", "hasElement", "(Ljava/lang/String;Ljava/lang/String;)Z"⟩ ⟨"PlainOrigin$Fields", "hasElement", "(Ljava/lang/String;Ljava/lang/String;)Z"⟩ ∈ UW := uw_3_2 (List.mem_of_getElem? (i := 6) rfl) rfl
theorem mw_818 : .code ⟨"PlainOrigin$Fields", "hasElement", "(Ljava/lang/String;Ljava/lang/String;)Z"⟩ prog_4_method_12_code 5 (some .boolean) ∈ UW := uw_3_2 (List.mem_of_getElem? (i := 7) rfl) rfl
theorem mw_819 : .methodLink "PlainOrigin$Fields" 91 ⟨"PlainOrigin$Fields", "gather", "(Ljava/lang/String;)I"⟩ ∈ UW := uw_3_2 (List.mem_of_getElem? (i := 8) rfl) rfl
theorem mw_820 : .methodLink "PlainOrigin$Fields" 95 ⟨"PlainOrigin$Fields", "elementIs", "(ILjava/lang/String;)Z"⟩ ∈ UW := uw_3_2 (List.mem_of_getElem? (i := 9) rfl) rfl
theorem mw_822 : .methodLink "PlainOrigin" 63 ⟨"PlainOrigin$Answer", "decide", "(LPlainOrigin$Request;LPlainOrigin$Site;)V"⟩ ∈ UW := uw_3_2 (List.mem_of_getElem? (i := 11) rfl) rfl
theorem mw_823 : .instanceMethod ⟨"PlainOrigin$Answer", "decide", "(LPlainOrigin$Request;LPlainOrigin$Site;)V"⟩ ∈ UW := uw_3_2 (List.mem_of_getElem? (i := 12) rfl) rfl
theorem mw_824 : .selects "PlainOrigin$Answer" ⟨"PlainOrigin$Answer", "decide", "(LPlainOrigin$Request;LPlainOrigin$Site;)V"⟩ ⟨"PlainOrigin$Answer", "decide", "(LPlainOrigin$Request;LPlainOrigin$Site;)V"⟩ ∈ UW := uw_3_2 (List.mem_of_getElem? (i := 13) rfl) rfl
theorem mw_825 : .code ⟨"PlainOrigin$Answer", "decide", "(LPlainOrigin$Request;LPlainOrigin$Site;)V"⟩ prog_2_method_3_code 6 none ∈ UW := uw_3_2 (List.mem_of_getElem? (i := 14) rfl) rfl
theorem mw_826 : .fieldLink "PlainOrigin$Answer" 59 "PlainOrigin$Method" "OPTIONS" "LPlainOrigin$Method;" ∈ UW := uw_3_2 (List.mem_of_getElem? (i := 15) rfl) rfl
theorem mw_827 : .fieldLink "PlainOrigin$Answer" 64 "PlainOrigin$Method" "TRACE" "LPlainOrigin$Method;" ∈ UW := uw_3_3 (List.mem_of_getElem? (i := 0) rfl) rfl
theorem mw_829 : .methodLink "PlainOrigin$Answer" 67 ⟨"PlainOrigin$Answer", "begin", "(I)V"⟩ ∈ UW := uw_3_3 (List.mem_of_getElem? (i := 2) rfl) rfl
theorem mw_830 : .instanceMethod ⟨"PlainOrigin$Answer", "begin", "(I)V"⟩ ∈ UW := uw_3_3 (List.mem_of_getElem? (i := 3) rfl) rfl
theorem mw_831 : .selects "PlainOrigin$Answer" ⟨"PlainOrigin$Answer", "begin", "(I)V"⟩ ⟨"PlainOrigin$Answer", "begin", "(I)V"⟩ ∈ UW := uw_3_3 (List.mem_of_getElem? (i := 4) rfl) rfl
theorem mw_832 : .code ⟨"PlainOrigin$Answer", "begin", "(I)V"⟩ prog_2_method_2_code 2 none ∈ UW := uw_3_3 (List.mem_of_getElem? (i := 5) rfl) rfl
theorem mw_833 : .fieldLink "PlainOrigin$Answer" 70 "PlainOrigin$Method" "GET" "LPlainOrigin$Method;" ∈ UW := uw_3_3 (List.mem_of_getElem? (i := 6) rfl) rfl
theorem mw_835 : .fieldLink "PlainOrigin$Answer" 73 "PlainOrigin$Method" "HEAD" "LPlainOrigin$Method;" ∈ UW := uw_3_3 (List.mem_of_getElem? (i := 8) rfl) rfl
theorem mw_837 : .methodLink "PlainOrigin$Answer" 79 ⟨"PlainOrigin$Site", "find", "(LPlainOrigin$Bytes;)LPlainOrigin$Resource;"⟩ ∈ UW := uw_3_3 (List.mem_of_getElem? (i := 10) rfl) rfl
theorem mw_838 : .instanceMethod ⟨"PlainOrigin$Site", "find", "(LPlainOrigin$Bytes;)LPlainOrigin$Resource;"⟩ ∈ UW := uw_3_3 (List.mem_of_getElem? (i := 11) rfl) rfl
theorem mw_839 : .selects "PlainOrigin$Site" ⟨"PlainOrigin$Site", "find", "(LPlainOrigin$Bytes;)LPlainOrigin$Resource;"⟩ ⟨"PlainOrigin$Site", "find", "(LPlainOrigin$Bytes;)LPlainOrigin$Resource;"⟩ ∈ UW := uw_3_3 (List.mem_of_getElem? (i := 12) rfl) rfl
theorem mw_840 : .code ⟨"PlainOrigin$Site", "find", "(LPlainOrigin$Bytes;)LPlainOrigin$Resource;"⟩ prog_11_method_2_code 3 (some (.object "PlainOrigin$Resource")) ∈ UW := uw_3_3 (List.mem_of_getElem? (i := 13) rfl) rfl
theorem mw_841 : .methodLink "PlainOrigin$Site" 18 ⟨"PlainOrigin$Bytes", "get", "(I)I"⟩ ∈ UW := uw_3_3 (List.mem_of_getElem? (i := 14) rfl) rfl
theorem mw_842 : .methodLink "PlainOrigin$Answer" 88 ⟨"PlainOrigin$Answer", "list", "(LPlainOrigin$Site;)V"⟩ ∈ UW := uw_3_3 (List.mem_of_getElem? (i := 15) rfl) rfl
theorem mw_844 : .instanceMethod ⟨"PlainOrigin$Answer", "list", "(LPlainOrigin$Site;)V"⟩ ∈ UW := uw_3_4 (List.mem_of_getElem? (i := 1) rfl) rfl
theorem mw_845 : .code ⟨"PlainOrigin$Answer", "list", "(LPlainOrigin$Site;)V"⟩ prog_2_method_4_code 3 none ∈ UW := uw_3_4 (List.mem_of_getElem? (i := 2) rfl) rfl
theorem mw_846 : .methodLink "PlainOrigin$Answer" 117 ⟨"PlainOrigin$Bytes", "clear", "()V"⟩ ∈ UW := uw_3_4 (List.mem_of_getElem? (i := 3) rfl) rfl
theorem mw_847 : .methodLink "PlainOrigin$Answer" 124 ⟨"PlainOrigin$Resource", "isThere", "()Z"⟩ ∈ UW := uw_3_4 (List.mem_of_getElem? (i := 4) rfl) rfl
theorem mw_848 : .instanceMethod ⟨"PlainOrigin$Resource", "isThere", "()Z"⟩ ∈ UW := uw_3_4 (List.mem_of_getElem? (i := 5) rfl) rfl
theorem mw_849 : .selects "PlainOrigin$Resource" ⟨"PlainOrigin$Resource", "isThere", "()Z"⟩ ⟨"PlainOrigin$Resource", "isThere", "()Z"⟩ ∈ UW := uw_3_4 (List.mem_of_getElem? (i := 6) rfl) rfl
theorem mw_850 : .code ⟨"PlainOrigin$Resource", "isThere", "()Z"⟩ prog_10_method_2_code 1 (some .boolean) ∈ UW := uw_3_4 (List.mem_of_getElem? (i := 7) rfl) rfl
theorem mw_851 : .methodLink "PlainOrigin$Answer" 130 ⟨"PlainOrigin$Bytes", "add", "(I)V"⟩ ∈ UW := uw_3_4 (List.mem_of_getElem? (i := 8) rfl) rfl
theorem mw_852 : .methodLink "PlainOrigin$Answer" 92 ⟨"PlainOrigin$Answer", "show", "(LPlainOrigin$Method;LPlainOrigin$Bytes;)V"⟩ ∈ UW := uw_3_4 (List.mem_of_getElem? (i := 9) rfl) rfl
theorem mw_854 : .instanceMethod ⟨"PlainOrigin$Answer", "show", "(LPlainOrigin$Method;LPlainOrigin$Bytes;)V"⟩ ∈ UW := uw_3_4 (List.mem_of_getElem? (i := 11) rfl) rfl
theorem mw_855 : .code ⟨"PlainOrigin$Answer", "show", "(LPlainOrigin$Method;LPlainOrigin$Bytes;)V"⟩ prog_2_method_5_code 3 none ∈ UW := uw_3_4 (List.mem_of_getElem? (i := 12) rfl) rfl
theorem mw_856 : .methodLink "PlainOrigin$Answer" 96 ⟨"PlainOrigin$Answer", "read", "(LPlainOrigin$Request;LPlainOrigin$Resource;)V"⟩ ∈ UW := uw_3_4 (List.mem_of_getElem? (i := 13) rfl) rfl
theorem mw_858 : .instanceMethod ⟨"PlainOrigin$Answer", "read", "(LPlainOrigin$Request;LPlainOrigin$Resource;)V"⟩ ∈ UW := uw_3_4 (List.mem_of_getElem? (i := 15) rfl) rfl
theorem mw_859 : .code ⟨"PlainOrigin$Answer", "read", "(LPlainOrigin$Request;LPlainOrigin$Resource;)V"⟩ prog_2_method_6_code 3 none ∈ UW := uw_3_5 (List.mem_of_getElem? (i := 0) rfl) rfl
theorem mw_860 : .methodLink "PlainOrigin$Answer" 138 ⟨"PlainOrigin$Answer", "isKnown", "(LPlainOrigin$Fields;I)Z"⟩ ∈ UW := uw_3_5 (List.mem_of_getElem? (i := 1) rfl) rfl
theorem mw_862 : .instanceMethod ⟨"PlainOrigin$Answer", "isKnown", "(LPlainOrigin$Fields;I)Z"⟩ ∈ UW := uw_3_5 (List.mem_of_getElem? (i := 3) rfl) rfl
theorem mw_863 : .code ⟨"PlainOrigin$Answer", "isKnown", "(LPlainOrigin$Fields;I)Z"⟩ prog_2_method_7_code 5 (some .boolean) ∈ UW := uw_3_5 (List.mem_of_getElem? (i := 4) rfl) rfl
theorem mw_865 : .methodLink "PlainOrigin$Answer" 155 ⟨"PlainOrigin$Fields", "gather", "(Ljava/lang/String;)I"⟩ ∈ UW := uw_3_5 (List.mem_of_getElem? (i := 6) rfl) rfl
theorem mw_867 : .methodLink "PlainOrigin$Answer" 163 ⟨"PlainOrigin$Fields", "elementIs", "(ILjava/lang/String;)Z"⟩ ∈ UW := uw_3_5 (List.mem_of_getElem? (i := 8) rfl) rfl
theorem mw_868 : .methodLink "PlainOrigin$Answer" 167 ⟨"PlainOrigin$Fields", "elementIsTag", "(II)Z"⟩ ∈ UW := uw_3_5 (List.mem_of_getElem? (i := 9) rfl) rfl
theorem mw_869 : .instanceMethod ⟨"PlainOrigin$Fields", "elementIsTag", "(II)Z"⟩ ∈ UW := uw_3_5 (List.mem_of_getElem? (i := 10) rfl) rfl
theorem mw_870 : .selects "PlainOrigin$Fields" ⟨"PlainOrigin$Fields", "elementIsTag", "(II)Z"⟩ ⟨"PlainOrigin$Fields", "elementIsTag", "(II)Z"⟩ ∈ UW := uw_3_5 (List.mem_of_getElem? (i := 11) rfl) rfl
theorem mw_871 : .code ⟨"PlainOrigin$Fields", "elementIsTag", "(II)Z"⟩ prog_4_method_11_code 5 (some .boolean) ∈ UW := uw_3_5 (List.mem_of_getElem? (i := 12) rfl) rfl
theorem mw_872 : .methodLink "PlainOrigin$Answer" 142 ⟨"PlainOrigin$Range", "take", "(LPlainOrigin$Fields;)Z"⟩ ∈ UW := uw_3_5 (List.mem_of_getElem? (i := 13) rfl) rfl
theorem mw_873 : .instanceMethod ⟨"PlainOrigin$Range", "take", "(LPlainOrigin$Fields;)Z"⟩ ∈ UW := uw_3_5 (List.mem_of_getElem? (i := 14) rfl) rfl
theorem mw_874 : .selects "PlainOrigin$Range" ⟨"PlainOrigin$Range", "take", "(LPlainOrigin$Fields;)Z"⟩ ⟨"PlainOrigin$Range", "take", "(LPlainOrigin$Fields;)Z"⟩ ∈ UW := uw_3_5 (List.mem_of_getElem? (i := 15) rfl) rfl
theorem mw_875 : .code ⟨"PlainOrigin$Range", "take", "(LPlainOrigin$Fields;)Z"⟩ prog_7_method_2_code 7 (some .boolean) ∈ UW := uw_3_6 (List.mem_of_getElem? (i := 0) rfl) rfl
theorem mw_877 : .methodLink "PlainOrigin$Range" 11 ⟨"PlainOrigin$Fields", "indexOf", "(Ljava/lang/String;)I"⟩ ∈ UW := uw_3_6 (List.mem_of_getElem? (i := 2) rfl) rfl
theorem mw_878 : .methodLink "PlainOrigin$Range" 17 ⟨"PlainOrigin$Fields", "countOf", "(Ljava/lang/String;)I"⟩ ∈ UW := uw_3_6 (List.mem_of_getElem? (i := 3) rfl) rfl
theorem mw_880 : .methodLink "PlainOrigin$Range" 33 ⟨"PlainOrigin$Text", "isWord", "(LPlainOrigin$Bytes;IILjava/lang/String;)Z"⟩ ∈ UW := uw_3_6 (List.mem_of_getElem? (i := 5) rfl) rfl
theorem mw_881 : .methodLink "PlainOrigin$Range" 39 ⟨"PlainOrigin$Text", "find", "(LPlainOrigin$Bytes;III)I"⟩ ∈ UW := uw_3_6 (List.mem_of_getElem? (i := 6) rfl) rfl
theorem mw_882 : .methodLink "PlainOrigin$Range" 43 ⟨"PlainOrigin$Text", "number", "(LPlainOrigin$Bytes;II)I"⟩ ∈ UW := uw_3_6 (List.mem_of_getElem? (i := 7) rfl) rfl
theorem mw_883 : .methodLink "PlainOrigin$Answer" 149 ⟨"PlainOrigin$Answer", "showRange", "(LPlainOrigin$Bytes;)V"⟩ ∈ UW := uw_3_6 (List.mem_of_getElem? (i := 8) rfl) rfl
theorem mw_885 : .instanceMethod ⟨"PlainOrigin$Answer", "showRange", "(LPlainOrigin$Bytes;)V"⟩ ∈ UW := uw_3_6 (List.mem_of_getElem? (i := 10) rfl) rfl
theorem mw_886 : .code ⟨"PlainOrigin$Answer", "showRange", "(LPlainOrigin$Bytes;)V"⟩ prog_2_method_8_code 3 none ∈ UW := uw_3_6 (List.mem_of_getElem? (i := 11) rfl) rfl
theorem mw_887 : .methodLink "PlainOrigin$Answer" 177 ⟨"java/lang/Math", "max", "(II)I"⟩ ∈ UW := uw_3_6 (List.mem_of_getElem? (i := 12) rfl) rfl
theorem mw_888 : .methodLink "PlainOrigin$Answer" 183 ⟨"java/lang/Math", "min", "(II)I"⟩ ∈ UW := uw_3_6 (List.mem_of_getElem? (i := 13) rfl) rfl
theorem mw_889 : .fieldLink "PlainOrigin$Answer" 100 "PlainOrigin$Method" "PUT" "LPlainOrigin$Method;" ∈ UW := uw_3_6 (List.mem_of_getElem? (i := 14) rfl) rfl
theorem mw_891 : .methodLink "PlainOrigin$Answer" 103 ⟨"PlainOrigin$Site", "replace", "(LPlainOrigin$Resource;LPlainOrigin$Request;)I"⟩ ∈ UW := uw_3_7 (List.mem_of_getElem? (i := 0) rfl) rfl
theorem mw_892 : .instanceMethod ⟨"PlainOrigin$Site", "replace", "(LPlainOrigin$Resource;LPlainOrigin$Request;)I"⟩ ∈ UW := uw_3_7 (List.mem_of_getElem? (i := 1) rfl) rfl
theorem mw_893 : .selects "PlainOrigin$Site" ⟨"PlainOrigin$Site", "replace", "(LPlainOrigin$Resource;LPlainOrigin$Request;)I"⟩ ⟨"PlainOrigin$Site", "replace", "(LPlainOrigin$Resource;LPlainOrigin$Request;)I"⟩ ∈ UW := uw_3_7 (List.mem_of_getElem? (i := 2) rfl) rfl
theorem mw_894 : .code ⟨"PlainOrigin$Site", "replace", "(LPlainOrigin$Resource;LPlainOrigin$Request;)I"⟩ prog_11_method_3_code 4 (some .int) ∈ UW := uw_3_7 (List.mem_of_getElem? (i := 3) rfl) rfl
theorem mw_895 : .methodLink "PlainOrigin$Site" 28 ⟨"PlainOrigin$Resource", "isThere", "()Z"⟩ ∈ UW := uw_3_7 (List.mem_of_getElem? (i := 4) rfl) rfl
theorem mw_898 : .methodLink "PlainOrigin$Site" 42 ⟨"PlainOrigin$Fields", "hasElement", "(Ljava/lang/String;Ljava/lang/String;)Z"⟩ ∈ UW := uw_3_7 (List.mem_of_getElem? (i := 7) rfl) rfl
theorem mw_899 : .methodLink "PlainOrigin$Site" 52 ⟨"PlainOrigin$Bytes", "clear", "()V"⟩ ∈ UW := uw_3_7 (List.mem_of_getElem? (i := 8) rfl) rfl
theorem mw_900 : .methodLink "PlainOrigin$Site" 58 ⟨"PlainOrigin$Bytes", "addAll", "(LPlainOrigin$Bytes;)V"⟩ ∈ UW := uw_3_7 (List.mem_of_getElem? (i := 9) rfl) rfl
theorem mw_901 : .fieldLink "PlainOrigin$Answer" 107 "PlainOrigin$Method" "POST" "LPlainOrigin$Method;" ∈ UW := uw_3_7 (List.mem_of_getElem? (i := 10) rfl) rfl
theorem mw_903 : .methodLink "PlainOrigin$Answer" 110 ⟨"PlainOrigin$Site", "extend", "(LPlainOrigin$Resource;LPlainOrigin$Request;)I"⟩ ∈ UW := uw_3_7 (List.mem_of_getElem? (i := 12) rfl) rfl
theorem mw_904 : .instanceMethod ⟨"PlainOrigin$Site", "extend", "(LPlainOrigin$Resource;LPlainOrigin$Request;)I"⟩ ∈ UW := uw_3_7 (List.mem_of_getElem? (i := 13) rfl) rfl
theorem mw_905 : .selects "PlainOrigin$Site" ⟨"PlainOrigin$Site", "extend", "(LPlainOrigin$Resource;LPlainOrigin$Request;)I"⟩ ⟨"PlainOrigin$Site", "extend", "(LPlainOrigin$Resource;LPlainOrigin$Request;)I"⟩ ∈ UW := uw_3_7 (List.mem_of_getElem? (i := 14) rfl) rfl
theorem mw_906 : .code ⟨"PlainOrigin$Site", "extend", "(LPlainOrigin$Resource;LPlainOrigin$Request;)I"⟩ prog_11_method_4_code 3 (some .int) ∈ UW := uw_3_7 (List.mem_of_getElem? (i := 15) rfl) rfl
theorem mw_907 : .methodLink "PlainOrigin$Answer" 113 ⟨"PlainOrigin$Site", "remove", "(LPlainOrigin$Resource;)I"⟩ ∈ UW := uw_3_8 (List.mem_of_getElem? (i := 0) rfl) rfl
theorem mw_908 : .instanceMethod ⟨"PlainOrigin$Site", "remove", "(LPlainOrigin$Resource;)I"⟩ ∈ UW := uw_3_8 (List.mem_of_getElem? (i := 1) rfl) rfl
theorem mw_909 : .selects "PlainOrigin$Site" ⟨"PlainOrigin$Site", "remove", "(LPlainOrigin$Resource;)I"⟩ ⟨"PlainOrigin$Site", "remove", "(LPlainOrigin$Resource;)I"⟩ ∈ UW := uw_3_8 (List.mem_of_getElem? (i := 2) rfl) rfl
theorem mw_910 : .code ⟨"PlainOrigin$Site", "remove", "(LPlainOrigin$Resource;)I"⟩ prog_11_method_5_code 2 (some .int) ∈ UW := uw_3_8 (List.mem_of_getElem? (i := 3) rfl) rfl
theorem mw_911 : .methodLink "PlainOrigin" 67 ⟨"PlainOrigin$Answer", "begin", "(I)V"⟩ ∈ UW := uw_3_8 (List.mem_of_getElem? (i := 4) rfl) rfl
theorem mw_912 : .methodLink "PlainOrigin" 71 ⟨"PlainOrigin", "send", "(I)V"⟩ ∈ UW := uw_3_8 (List.mem_of_getElem? (i := 5) rfl) rfl
theorem mw_914 : .instanceMethod ⟨"PlainOrigin", "send", "(I)V"⟩ ∈ UW := uw_3_8 (List.mem_of_getElem? (i := 7) rfl) rfl
theorem mw_915 : .code ⟨"PlainOrigin", "send", "(I)V"⟩ prog_1_method_15_code 3 none ∈ UW := uw_3_8 (List.mem_of_getElem? (i := 8) rfl) rfl
theorem mw_916 : .methodLink "PlainOrigin" 142 ⟨"PlainOrigin$Request", "isOld", "()Z"⟩ ∈ UW := uw_3_8 (List.mem_of_getElem? (i := 9) rfl) rfl
theorem mw_917 : .methodLink "PlainOrigin" 148 ⟨"PlainOrigin$Outbox", "write", "(LPlainOrigin$Answer;)V"⟩ ∈ UW := uw_3_8 (List.mem_of_getElem? (i := 10) rfl) rfl
theorem mw_918 : .instanceMethod ⟨"PlainOrigin$Outbox", "write", "(LPlainOrigin$Answer;)V"⟩ ∈ UW := uw_3_8 (List.mem_of_getElem? (i := 11) rfl) rfl
theorem mw_919 : .selects "PlainOrigin$Outbox" ⟨"PlainOrigin$Outbox", "write", "(LPlainOrigin$Answer;)V"⟩ ⟨"PlainOrigin$Outbox", "write", "(LPlainOrigin$Answer;)V"⟩ ∈ UW := uw_3_8 (List.mem_of_getElem? (i := 12) rfl) rfl
theorem mw_920 : .code ⟨"PlainOrigin$Outbox", "write", "(LPlainOrigin$Answer;)V"⟩ prog_6_method_3_code 3 none ∈ UW := uw_3_8 (List.mem_of_getElem? (i := 13) rfl) rfl
theorem mw_922 : .methodLink "PlainOrigin$Outbox" 29 ⟨"PlainOrigin$Outbox", "writeText", "(Ljava/lang/String;)V"⟩ ∈ UW := uw_3_8 (List.mem_of_getElem? (i := 15) rfl) rfl
theorem mw_924 : .instanceMethod ⟨"PlainOrigin$Outbox", "writeText", "(Ljava/lang/String;)V"⟩ ∈ UW := uw_3_9 (List.mem_of_getElem? (i := 1) rfl) rfl
theorem mw_925 : .code ⟨"PlainOrigin$Outbox", "writeText", "(Ljava/lang/String;)V"⟩ prog_6_method_7_code 3 none ∈ UW := uw_3_9 (List.mem_of_getElem? (i := 2) rfl) rfl
theorem mw_926 : .methodLink "PlainOrigin$Outbox" 106 ⟨"java/lang/String", "length", "()I"⟩ ∈ UW := uw_3_9 (List.mem_of_getElem? (i := 3) rfl) rfl
theorem mw_927 : .methodLink "PlainOrigin$Outbox" 112 ⟨"java/lang/String", "charAt", "(I)C"⟩ ∈ UW := uw_3_9 (List.mem_of_getElem? (i := 4) rfl) rfl
theorem mw_928 : .methodLink "PlainOrigin$Outbox" 62 ⟨"PlainOrigin$Outbox", "writeByte", "(I)V"⟩ ∈ UW := uw_3_9 (List.mem_of_getElem? (i := 5) rfl) rfl
theorem mw_930 : .instanceMethod ⟨"PlainOrigin$Outbox", "writeByte", "(I)V"⟩ ∈ UW := uw_3_9 (List.mem_of_getElem? (i := 7) rfl) rfl
theorem mw_931 : .code ⟨"PlainOrigin$Outbox", "writeByte", "(I)V"⟩ prog_6_method_6_code 2 none ∈ UW := uw_3_9 (List.mem_of_getElem? (i := 8) rfl) rfl
theorem mw_932 : .methodLink "PlainOrigin$Outbox" 103 ⟨"PlainOrigin$Bytes", "add", "(I)V"⟩ ∈ UW := uw_3_9 (List.mem_of_getElem? (i := 9) rfl) rfl
theorem mw_933 : .methodLink "PlainOrigin$Outbox" 38 ⟨"PlainOrigin$Outbox", "writeNumber", "(I)V"⟩ ∈ UW := uw_3_9 (List.mem_of_getElem? (i := 10) rfl) rfl
theorem mw_935 : .instanceMethod ⟨"PlainOrigin$Outbox", "writeNumber", "(I)V"⟩ ∈ UW := uw_3_9 (List.mem_of_getElem? (i := 12) rfl) rfl
theorem mw_936 : .code ⟨"PlainOrigin$Outbox", "writeNumber", "(I)V"⟩ prog_6_method_8_code 4 none ∈ UW := uw_3_9 (List.mem_of_getElem? (i := 13) rfl) rfl
theorem mw_938 : .methodLink "PlainOrigin$Outbox" 43 ⟨"PlainOrigin$Outbox", "writeFields", "(LPlainOrigin$Answer;)V"⟩ ∈ UW := uw_3_9 (List.mem_of_getElem? (i := 15) rfl) rfl
theorem mw_940 : .instanceMethod ⟨"PlainOrigin$Outbox", "writeFields", "(LPlainOrigin$Answer;)V"⟩ ∈ UW := uw_3_10 (List.mem_of_getElem? (i := 1) rfl) rfl
theorem mw_941 : .code ⟨"PlainOrigin$Outbox", "writeFields", "(LPlainOrigin$Answer;)V"⟩ prog_6_method_4_code 2 none ∈ UW := uw_3_10 (List.mem_of_getElem? (i := 2) rfl) rfl
theorem mw_946 : .methodLink "PlainOrigin$Outbox" 77 ⟨"PlainOrigin$Outbox", "writeRange", "(LPlainOrigin$Answer;)V"⟩ ∈ UW := uw_3_10 (List.mem_of_getElem? (i := 7) rfl) rfl
theorem mw_948 : .instanceMethod ⟨"PlainOrigin$Outbox", "writeRange", "(LPlainOrigin$Answer;)V"⟩ ∈ UW := uw_3_10 (List.mem_of_getElem? (i := 9) rfl) rfl
theorem mw_949 : .code ⟨"PlainOrigin$Outbox", "writeRange", "(LPlainOrigin$Answer;)V"⟩ prog_6_method_5_code 2 none ∈ UW := uw_3_10 (List.mem_of_getElem? (i := 10) rfl) rfl
theorem mw_955 : .methodLink "PlainOrigin$Outbox" 58 ⟨"PlainOrigin$Bytes", "get", "(I)I"⟩ ∈ UW := uw_3_11 (List.mem_of_getElem? (i := 0) rfl) rfl
theorem mw_956 : .methodLink "PlainOriginLaw" 63 ⟨"PlainOriginLaw", "out", "(LPlainOrigin;I[J)I"⟩ ∈ UW := uw_3_11 (List.mem_of_getElem? (i := 1) rfl) rfl
theorem mw_957 : .static ⟨"PlainOriginLaw", "out", "(LPlainOrigin;I[J)I"⟩ ∈ UW := uw_3_11 (List.mem_of_getElem? (i := 2) rfl) rfl
theorem mw_959 : .classLink "PlainOriginLaw" 19 "java/lang/IndexOutOfBoundsException" ∈ UW := uw_3_11 (List.mem_of_getElem? (i := 4) rfl) rfl
theorem mw_960 : .methodLink "PlainOriginLaw" 15 ⟨"PlainOrigin", "out", "(I)J"⟩ ∈ UW := uw_3_11 (List.mem_of_getElem? (i := 5) rfl) rfl
theorem mw_961 : .instanceMethod ⟨"PlainOrigin", "out", "(I)J"⟩ ∈ UW := uw_3_11 (List.mem_of_getElem? (i := 6) rfl) rfl
theorem mw_962 : .selects "PlainOrigin" ⟨"PlainOrigin", "out", "(I)J"⟩ ⟨"PlainOrigin", "out", "(I)J"⟩ ∈ UW := uw_3_11 (List.mem_of_getElem? (i := 7) rfl) rfl
theorem mw_963 : .code ⟨"PlainOrigin", "out", "(I)J"⟩ prog_1_method_6_code 6 (some .long) ∈ UW := uw_3_11 (List.mem_of_getElem? (i := 8) rfl) rfl
theorem mw_964 : .classLink "PlainOrigin" 86 "java/lang/IndexOutOfBoundsException" ∈ UW := uw_3_11 (List.mem_of_getElem? (i := 9) rfl) rfl
theorem mw_965 : .instantiable "java/lang/IndexOutOfBoundsException" 6 ∈ UW := uw_3_11 (List.mem_of_getElem? (i := 10) rfl) rfl
theorem mw_967 : .selects "java/lang/IndexOutOfBoundsException" ⟨"java/lang/Throwable", "fillInStackTrace", "(I)Ljava/lang/Throwable;"⟩ ⟨"java/lang/Throwable", "fillInStackTrace", "(I)Ljava/lang/Throwable;"⟩ ∈ UW := uw_3_11 (List.mem_of_getElem? (i := 12) rfl) rfl
theorem mw_968 : .lays "java/lang/IndexOutOfBoundsException" "java/lang/Throwable" "cause" "Ljava/lang/Throwable;" ∈ UW := uw_3_11 (List.mem_of_getElem? (i := 13) rfl) rfl
theorem mw_969 : .lays "java/lang/IndexOutOfBoundsException" "java/lang/Throwable" "stackTrace" "[Ljava/lang/StackTraceElement;" ∈ UW := uw_3_11 (List.mem_of_getElem? (i := 14) rfl) rfl
theorem mw_970 : .lays "java/lang/IndexOutOfBoundsException" "java/lang/Throwable" "suppressedExceptions" "Ljava/util/List;" ∈ UW := uw_3_11 (List.mem_of_getElem? (i := 15) rfl) rfl
theorem mw_971 : .lays "java/lang/IndexOutOfBoundsException" "java/lang/Throwable" "detailMessage" "Ljava/lang/String;" ∈ UW := uw_3_12 (List.mem_of_getElem? (i := 0) rfl) rfl
theorem mw_972 : .lays "java/lang/IndexOutOfBoundsException" "java/lang/Throwable" "backtrace" "Ljava/lang/Object;" ∈ UW := uw_3_12 (List.mem_of_getElem? (i := 1) rfl) rfl
theorem mw_974 : .methodLink "PlainOrigin" 90 ⟨"java/lang/IndexOutOfBoundsException", "<init>", "(Ljava/lang/String;)V"⟩ ∈ UW := uw_3_12 (List.mem_of_getElem? (i := 3) rfl) rfl
theorem mw_975 : .instanceMethod ⟨"java/lang/IndexOutOfBoundsException", "<init>", "(Ljava/lang/String;)V"⟩ ∈ UW := uw_3_12 (List.mem_of_getElem? (i := 4) rfl) rfl
theorem mw_976 : .code ⟨"java/lang/IndexOutOfBoundsException", "<init>", "(Ljava/lang/String;)V"⟩ prog_19_method_2_code 2 none ∈ UW := uw_3_12 (List.mem_of_getElem? (i := 5) rfl) rfl
theorem mw_977 : .methodLink "java/lang/IndexOutOfBoundsException" 7 ⟨"java/lang/RuntimeException", "<init>", "(Ljava/lang/String;)V"⟩ ∈ UW := uw_3_12 (List.mem_of_getElem? (i := 6) rfl) rfl
theorem mw_978 : .lays "java/lang/IndexOutOfBoundsException" "java/lang/Throwable" "depth" "I" ∈ UW := uw_3_12 (List.mem_of_getElem? (i := 7) rfl) rfl
theorem mw_980 : .methodLink "PlainOrigin" 95 ⟨"PlainOrigin$Bytes", "get", "(I)I"⟩ ∈ UW := uw_3_12 (List.mem_of_getElem? (i := 9) rfl) rfl
theorem mw_981 : .methodLink "PlainOriginLaw" 79 ⟨"PlainOriginLaw", "size", "(LPlainOrigin;I[J)I"⟩ ∈ UW := uw_3_12 (List.mem_of_getElem? (i := 10) rfl) rfl
theorem mw_982 : .static ⟨"PlainOriginLaw", "size", "(LPlainOrigin;I[J)I"⟩ ∈ UW := uw_3_12 (List.mem_of_getElem? (i := 11) rfl) rfl
theorem mw_984 : .methodLink "PlainOriginLaw" 21 ⟨"PlainOrigin", "size", "(I)I"⟩ ∈ UW := uw_3_12 (List.mem_of_getElem? (i := 13) rfl) rfl
theorem mw_985 : .instanceMethod ⟨"PlainOrigin", "size", "(I)I"⟩ ∈ UW := uw_3_12 (List.mem_of_getElem? (i := 14) rfl) rfl
theorem mw_986 : .selects "PlainOrigin" ⟨"PlainOrigin", "size", "(I)I"⟩ ⟨"PlainOrigin", "size", "(I)I"⟩ ∈ UW := uw_3_12 (List.mem_of_getElem? (i := 15) rfl) rfl
theorem mw_987 : .code ⟨"PlainOrigin", "size", "(I)I"⟩ prog_1_method_10_code 3 (some .int) ∈ UW := uw_3_13 (List.mem_of_getElem? (i := 0) rfl) rfl
theorem mw_988 : .methodLink "PlainOrigin" 100 ⟨"PlainOrigin", "resourceOf", "(I)LPlainOrigin$Resource;"⟩ ∈ UW := uw_3_13 (List.mem_of_getElem? (i := 1) rfl) rfl
theorem mw_990 : .instanceMethod ⟨"PlainOrigin", "resourceOf", "(I)LPlainOrigin$Resource;"⟩ ∈ UW := uw_3_13 (List.mem_of_getElem? (i := 3) rfl) rfl
theorem mw_991 : .code ⟨"PlainOrigin", "resourceOf", "(I)LPlainOrigin$Resource;"⟩ prog_1_method_14_code 2 (some (.object "PlainOrigin$Resource")) ∈ UW := uw_3_13 (List.mem_of_getElem? (i := 4) rfl) rfl
theorem mw_993 : .methodLink "PlainOrigin" 104 ⟨"PlainOrigin$Resource", "isThere", "()Z"⟩ ∈ UW := uw_3_13 (List.mem_of_getElem? (i := 6) rfl) rfl
theorem mw_994 : .methodLink "PlainOriginLaw" 82 ⟨"PlainOriginLaw", "at", "(LPlainOrigin;II[J)I"⟩ ∈ UW := uw_3_13 (List.mem_of_getElem? (i := 7) rfl) rfl
theorem mw_995 : .static ⟨"PlainOriginLaw", "at", "(LPlainOrigin;II[J)I"⟩ ∈ UW := uw_3_13 (List.mem_of_getElem? (i := 8) rfl) rfl
theorem mw_997 : .classLink "PlainOriginLaw" 29 "java/util/NoSuchElementException" ∈ UW := uw_3_13 (List.mem_of_getElem? (i := 10) rfl) rfl
theorem mw_998 : .methodLink "PlainOriginLaw" 25 ⟨"PlainOrigin", "at", "(II)I"⟩ ∈ UW := uw_3_13 (List.mem_of_getElem? (i := 11) rfl) rfl
theorem mw_999 : .instanceMethod ⟨"PlainOrigin", "at", "(II)I"⟩ ∈ UW := uw_3_13 (List.mem_of_getElem? (i := 12) rfl) rfl
theorem mw_1000 : .selects "PlainOrigin" ⟨"PlainOrigin", "at", "(II)I"⟩ ⟨"PlainOrigin", "at", "(II)I"⟩ ∈ UW := uw_3_13 (List.mem_of_getElem? (i := 13) rfl) rfl
theorem mw_1001 : .code ⟨"PlainOrigin", "at", "(II)I"⟩ prog_1_method_11_code 4 (some .int) ∈ UW := uw_3_13 (List.mem_of_getElem? (i := 14) rfl) rfl
theorem mw_1002 : .classLink "PlainOrigin" 116 "java/util/NoSuchElementException" ∈ UW := uw_3_13 (List.mem_of_getElem? (i := 15) rfl) rfl
theorem mw_1003 : .instantiable "java/util/NoSuchElementException" 6 ∈ UW := uw_3_14 (List.mem_of_getElem? (i := 0) rfl) rfl
theorem mw_1005 : .selects "java/util/NoSuchElementException" ⟨"java/lang/Throwable", "fillInStackTrace", "(I)Ljava/lang/Throwable;"⟩ ⟨"java/lang/Throwable", "fillInStackTrace", "(I)Ljava/lang/Throwable;"⟩ ∈ UW := uw_3_14 (List.mem_of_getElem? (i := 2) rfl) rfl
theorem mw_1006 : .lays "java/util/NoSuchElementException" "java/lang/Throwable" "cause" "Ljava/lang/Throwable;" ∈ UW := uw_3_14 (List.mem_of_getElem? (i := 3) rfl) rfl
theorem mw_1007 : .lays "java/util/NoSuchElementException" "java/lang/Throwable" "stackTrace" "[Ljava/lang/StackTraceElement;" ∈ UW := uw_3_14 (List.mem_of_getElem? (i := 4) rfl) rfl
theorem mw_1008 : .lays "java/util/NoSuchElementException" "java/lang/Throwable" "suppressedExceptions" "Ljava/util/List;" ∈ UW := uw_3_14 (List.mem_of_getElem? (i := 5) rfl) rfl
theorem mw_1009 : .lays "java/util/NoSuchElementException" "java/lang/Throwable" "detailMessage" "Ljava/lang/String;" ∈ UW := uw_3_14 (List.mem_of_getElem? (i := 6) rfl) rfl
theorem mw_1010 : .lays "java/util/NoSuchElementException" "java/lang/Throwable" "backtrace" "Ljava/lang/Object;" ∈ UW := uw_3_14 (List.mem_of_getElem? (i := 7) rfl) rfl
theorem mw_1012 : .methodLink "PlainOrigin" 120 ⟨"java/util/NoSuchElementException", "<init>", "(Ljava/lang/String;)V"⟩ ∈ UW := uw_3_14 (List.mem_of_getElem? (i := 9) rfl) rfl
theorem mw_1013 : .instanceMethod ⟨"java/util/NoSuchElementException", "<init>", "(Ljava/lang/String;)V"⟩ ∈ UW := uw_3_14 (List.mem_of_getElem? (i := 10) rfl) rfl
theorem mw_1014 : .code ⟨"java/util/NoSuchElementException", "<init>", "(Ljava/lang/String;)V"⟩ prog_26_method_4_code 2 none ∈ UW := uw_3_14 (List.mem_of_getElem? (i := 11) rfl) rfl
theorem mw_1015 : .methodLink "java/util/NoSuchElementException" 13 ⟨"java/lang/RuntimeException", "<init>", "(Ljava/lang/String;)V"⟩ ∈ UW := uw_3_14 (List.mem_of_getElem? (i := 12) rfl) rfl
theorem mw_1016 : .lays "java/util/NoSuchElementException" "java/lang/Throwable" "depth" "I" ∈ UW := uw_3_14 (List.mem_of_getElem? (i := 13) rfl) rfl
theorem mw_1018 : .methodLink "PlainOriginLaw" 86 ⟨"PlainOriginLaw", "mark", "(LPlainOrigin;I[J)I"⟩ ∈ UW := uw_3_14 (List.mem_of_getElem? (i := 15) rfl) rfl
theorem mw_1019 : .static ⟨"PlainOriginLaw", "mark", "(LPlainOrigin;I[J)I"⟩ ∈ UW := uw_4_0 (List.mem_of_getElem? (i := 0) rfl) rfl
theorem mw_1021 : .methodLink "PlainOriginLaw" 31 ⟨"PlainOrigin", "mark", "(I)I"⟩ ∈ UW := uw_4_0 (List.mem_of_getElem? (i := 2) rfl) rfl
theorem mw_1022 : .instanceMethod ⟨"PlainOrigin", "mark", "(I)I"⟩ ∈ UW := uw_4_0 (List.mem_of_getElem? (i := 3) rfl) rfl
theorem mw_1023 : .selects "PlainOrigin" ⟨"PlainOrigin", "mark", "(I)I"⟩ ⟨"PlainOrigin", "mark", "(I)I"⟩ ∈ UW := uw_4_0 (List.mem_of_getElem? (i := 4) rfl) rfl
theorem mw_1024 : .code ⟨"PlainOrigin", "mark", "(I)I"⟩ prog_1_method_12_code 2 (some .int) ∈ UW := uw_4_0 (List.mem_of_getElem? (i := 5) rfl) rfl
theorem mw_1025 : .classLink "PlainOriginLaw" 35 "PlainOriginModel" ∈ UW := uw_4_0 (List.mem_of_getElem? (i := 6) rfl) rfl
theorem mw_1026 : .instantiable "PlainOriginModel" 33 ∈ UW := uw_4_0 (List.mem_of_getElem? (i := 7) rfl) rfl
theorem mw_1027 : .methodLink "PlainOriginLaw" 37 ⟨"PlainOriginModel", "<init>", "()V"⟩ ∈ UW := uw_4_0 (List.mem_of_getElem? (i := 8) rfl) rfl
theorem mw_1028 : .instanceMethod ⟨"PlainOriginModel", "<init>", "()V"⟩ ∈ UW := uw_4_0 (List.mem_of_getElem? (i := 9) rfl) rfl
theorem mw_1029 : .code ⟨"PlainOriginModel", "<init>", "()V"⟩ prog_14_method_1_code 1 none ∈ UW := uw_4_0 (List.mem_of_getElem? (i := 10) rfl) rfl
theorem mw_1030 : .methodLink "PlainOriginModel" 1 ⟨"java/lang/Object", "<init>", "()V"⟩ ∈ UW := uw_4_0 (List.mem_of_getElem? (i := 11) rfl) rfl
theorem mw_1031 : .constantLong "PlainOriginModel" 7 (7021802314326568808) ∈ UW := uw_4_0 (List.mem_of_getElem? (i := 12) rfl) rfl
theorem mw_1032 : .constantLong "PlainOriginModel" 9 (7954814286170583918) ∈ UW := uw_4_0 (List.mem_of_getElem? (i := 13) rfl) rfl
theorem mw_1033 : .constantLong "PlainOriginModel" 11 (7133815533667118947) ∈ UW := uw_4_0 (List.mem_of_getElem? (i := 14) rfl) rfl
theorem mw_1034 : .constantLong "PlainOriginModel" 13 (7795014547545550447) ∈ UW := uw_4_0 (List.mem_of_getElem? (i := 15) rfl) rfl
theorem mw_1035 : .constantLong "PlainOriginModel" 15 (8675340705828662885) ∈ UW := uw_4_1 (List.mem_of_getElem? (i := 0) rfl) rfl
theorem mw_1036 : .constantLong "PlainOriginModel" 17 (7957687920190776688) ∈ UW := uw_4_1 (List.mem_of_getElem? (i := 1) rfl) rfl
theorem mw_1037 : .constantLong "PlainOriginModel" 19 (31084746153092462) ∈ UW := uw_4_1 (List.mem_of_getElem? (i := 2) rfl) rfl
theorem mw_1038 : .constantLong "PlainOriginModel" 21 (3271142129223427689) ∈ UW := uw_4_1 (List.mem_of_getElem? (i := 3) rfl) rfl
theorem mw_1039 : .constantLong "PlainOriginModel" 23 (7021675217369194861) ∈ UW := uw_4_1 (List.mem_of_getElem? (i := 4) rfl) rfl
theorem mw_1040 : .constantLong "PlainOriginModel" 25 (7959382690864916334) ∈ UW := uw_4_1 (List.mem_of_getElem? (i := 5) rfl) rfl
theorem mw_1041 : .constantLong "PlainOriginModel" 27 (3256155517606978923) ∈ UW := uw_4_1 (List.mem_of_getElem? (i := 6) rfl) rfl
theorem mw_1042 : .constantLong "PlainOriginModel" 29 (7310870969309884259) ∈ UW := uw_4_1 (List.mem_of_getElem? (i := 7) rfl) rfl
theorem mw_1043 : .constantLong "PlainOriginModel" 31 (7710274108523307776) ∈ UW := uw_4_1 (List.mem_of_getElem? (i := 8) rfl) rfl
theorem mw_1044 : .constantLong "PlainOriginModel" 33 (8532470133660083557) ∈ UW := uw_4_1 (List.mem_of_getElem? (i := 9) rfl) rfl
theorem mw_1045 : .constantLong "PlainOriginModel" 35 (4427994409562407013) ∈ UW := uw_4_1 (List.mem_of_getElem? (i := 10) rfl) rfl
theorem mw_1046 : .constantLong "PlainOriginModel" 37 (4703244552109377280) ∈ UW := uw_4_1 (List.mem_of_getElem? (i := 11) rfl) rfl
theorem mw_1047 : .constantLong "PlainOriginModel" 39 (5715068289341718596) ∈ UW := uw_4_1 (List.mem_of_getElem? (i := 12) rfl) rfl
theorem mw_1048 : .constantLong "PlainOriginModel" 41 (6072343532956308563) ∈ UW := uw_4_1 (List.mem_of_getElem? (i := 13) rfl) rfl
theorem mw_1049 : .constantLong "PlainOriginModel" 43 (5642809484591956037) ∈ UW := uw_4_1 (List.mem_of_getElem? (i := 14) rfl) rfl
theorem mw_1050 : .constantLong "PlainOriginModel" 45 (19495721226207315) ∈ UW := uw_4_1 (List.mem_of_getElem? (i := 15) rfl) rfl
theorem mw_1051 : .constantLong "PlainOriginModel" 47 (3543824036068086856) ∈ UW := uw_4_2 (List.mem_of_getElem? (i := 0) rfl) rfl
theorem mw_1052 : .constantLong "PlainOriginModel" 49 (7954892334481735712) ∈ UW := uw_4_2 (List.mem_of_getElem? (i := 1) rfl) rfl
theorem mw_1053 : .constantLong "PlainOriginModel" 51 (7526754601086496116) ∈ UW := uw_4_2 (List.mem_of_getElem? (i := 2) rfl) rfl
theorem mw_1054 : .constantLong "PlainOriginModel" 53 (4208439391363801146) ∈ UW := uw_4_2 (List.mem_of_getElem? (i := 3) rfl) rfl
theorem mw_1055 : .constantLong "PlainOriginModel" 55 (4207883150624435572) ∈ UW := uw_4_2 (List.mem_of_getElem? (i := 4) rfl) rfl
theorem mw_1056 : .constantLong "PlainOriginModel" 57 (9134078837744160) ∈ UW := uw_4_2 (List.mem_of_getElem? (i := 5) rfl) rfl
theorem mw_1057 : .constantLong "PlainOriginModel" 59 (5125160660592520257) ∈ UW := uw_4_2 (List.mem_of_getElem? (i := 6) rfl) rfl
theorem mw_1058 : .constantLong "PlainOriginModel" 61 (4918288444145030213) ∈ UW := uw_4_2 (List.mem_of_getElem? (i := 7) rfl) rfl
theorem mw_1059 : .constantLong "PlainOriginModel" 63 (5773663463009165356) ∈ UW := uw_4_2 (List.mem_of_getElem? (i := 8) rfl) rfl
theorem mw_1060 : .constantLong "PlainOriginModel" 65 (5495873825248924495) ∈ UW := uw_4_2 (List.mem_of_getElem? (i := 9) rfl) rfl
theorem mw_1061 : .constantLong "PlainOriginModel" 67 (6075442896923087941) ∈ UW := uw_4_2 (List.mem_of_getElem? (i := 10) rfl) rfl
theorem mw_1062 : .constantLong "PlainOriginModel" 69 (7957652735263657801) ∈ UW := uw_4_2 (List.mem_of_getElem? (i := 11) rfl) rfl
theorem mw_1063 : .constantLong "PlainOriginModel" 71 (4210425200352912750) ∈ UW := uw_4_2 (List.mem_of_getElem? (i := 12) rfl) rfl
theorem mw_1064 : .constantLong "PlainOriginModel" 73 (4827970347006190368) ∈ UW := uw_4_2 (List.mem_of_getElem? (i := 13) rfl) rfl
theorem mw_1065 : .constantLong "PlainOriginModel" 75 (8028075781016940143) ∈ UW := uw_4_2 (List.mem_of_getElem? (i := 14) rfl) rfl
theorem mw_1066 : .constantLong "PlainOriginModel" 77 (3274228415361727086) ∈ UW := uw_4_2 (List.mem_of_getElem? (i := 15) rfl) rfl
theorem mw_1067 : .constantLong "PlainOriginModel" 79 (435778317409) ∈ UW := uw_4_3 (List.mem_of_getElem? (i := 0) rfl) rfl
theorem mw_1068 : .fieldLink "PlainOriginModel" 81 "PlainOriginModel" "words" "[J" ∈ UW := uw_4_3 (List.mem_of_getElem? (i := 1) rfl) rfl
theorem mw_1069 : .fieldLink "PlainOriginModel" 142 "PlainOriginModel" "code" "I" ∈ UW := uw_4_3 (List.mem_of_getElem? (i := 2) rfl) rfl
theorem mw_1070 : .fieldLink "PlainOriginModel" 87 "PlainOriginModel" "there" "[Z" ∈ UW := uw_4_3 (List.mem_of_getElem? (i := 3) rfl) rfl
theorem mw_1071 : .fieldLink "PlainOriginModel" 91 "PlainOriginModel" "marks" "[I" ∈ UW := uw_4_3 (List.mem_of_getElem? (i := 4) rfl) rfl
theorem mw_1072 : .fieldLink "PlainOriginModel" 95 "PlainOriginModel" "sizes" "[I" ∈ UW := uw_4_3 (List.mem_of_getElem? (i := 5) rfl) rfl
theorem mw_1073 : .fieldLink "PlainOriginModel" 98 "PlainOriginModel" "content" "[I" ∈ UW := uw_4_3 (List.mem_of_getElem? (i := 6) rfl) rfl
theorem mw_1074 : .fieldLink "PlainOriginModel" 329 "PlainOriginModel" "changes" "I" ∈ UW := uw_4_3 (List.mem_of_getElem? (i := 7) rfl) rfl
theorem mw_1075 : .fieldLink "PlainOriginModel" 101 "PlainOriginModel" "open" "Z" ∈ UW := uw_4_3 (List.mem_of_getElem? (i := 8) rfl) rfl
theorem mw_1076 : .fieldLink "PlainOriginModel" 179 "PlainOriginModel" "stage" "I" ∈ UW := uw_4_3 (List.mem_of_getElem? (i := 9) rfl) rfl
theorem mw_1077 : .fieldLink "PlainOriginModel" 191 "PlainOriginModel" "half" "Z" ∈ UW := uw_4_3 (List.mem_of_getElem? (i := 10) rfl) rfl
theorem mw_1078 : .fieldLink "PlainOriginModel" 201 "PlainOriginModel" "lineSize" "I" ∈ UW := uw_4_3 (List.mem_of_getElem? (i := 11) rfl) rfl
theorem mw_1079 : .fieldLink "PlainOriginModel" 105 "PlainOriginModel" "line" "[I" ∈ UW := uw_4_3 (List.mem_of_getElem? (i := 12) rfl) rfl
theorem mw_1080 : .fieldLink "PlainOriginModel" 108 "PlainOriginModel" "method" "I" ∈ UW := uw_4_3 (List.mem_of_getElem? (i := 13) rfl) rfl
theorem mw_1081 : .fieldLink "PlainOriginModel" 245 "PlainOriginModel" "targetSize" "I" ∈ UW := uw_4_3 (List.mem_of_getElem? (i := 14) rfl) rfl
theorem mw_1082 : .fieldLink "PlainOriginModel" 112 "PlainOriginModel" "target" "[I" ∈ UW := uw_4_3 (List.mem_of_getElem? (i := 15) rfl) rfl
theorem mw_1083 : .fieldLink "PlainOriginModel" 115 "PlainOriginModel" "minor" "I" ∈ UW := uw_4_4 (List.mem_of_getElem? (i := 0) rfl) rfl
theorem mw_1084 : .fieldLink "PlainOriginModel" 172 "PlainOriginModel" "last" "Z" ∈ UW := uw_4_4 (List.mem_of_getElem? (i := 1) rfl) rfl
theorem mw_1085 : .fieldLink "PlainOriginModel" 228 "PlainOriginModel" "fields" "I" ∈ UW := uw_4_4 (List.mem_of_getElem? (i := 2) rfl) rfl
theorem mw_1086 : .fieldLink "PlainOriginModel" 118 "PlainOriginModel" "text" "[I" ∈ UW := uw_4_4 (List.mem_of_getElem? (i := 3) rfl) rfl
theorem mw_1087 : .fieldLink "PlainOriginModel" 121 "PlainOriginModel" "colon" "[I" ∈ UW := uw_4_4 (List.mem_of_getElem? (i := 4) rfl) rfl
theorem mw_1088 : .fieldLink "PlainOriginModel" 124 "PlainOriginModel" "textSize" "[I" ∈ UW := uw_4_4 (List.mem_of_getElem? (i := 5) rfl) rfl
theorem mw_1089 : .fieldLink "PlainOriginModel" 182 "PlainOriginModel" "due" "I" ∈ UW := uw_4_4 (List.mem_of_getElem? (i := 6) rfl) rfl
theorem mw_1090 : .fieldLink "PlainOriginModel" 185 "PlainOriginModel" "bodySize" "I" ∈ UW := uw_4_4 (List.mem_of_getElem? (i := 7) rfl) rfl
theorem mw_1091 : .fieldLink "PlainOriginModel" 127 "PlainOriginModel" "body" "[I" ∈ UW := uw_4_4 (List.mem_of_getElem? (i := 8) rfl) rfl
theorem mw_1092 : .fieldLink "PlainOriginModel" 251 "PlainOriginModel" "trailers" "I" ∈ UW := uw_4_4 (List.mem_of_getElem? (i := 9) rfl) rfl
theorem mw_1093 : .fieldLink "PlainOriginModel" 162 "PlainOriginModel" "wrong" "I" ∈ UW := uw_4_4 (List.mem_of_getElem? (i := 10) rfl) rfl
theorem mw_1094 : .fieldLink "PlainOriginModel" 263 "PlainOriginModel" "elements" "I" ∈ UW := uw_4_4 (List.mem_of_getElem? (i := 11) rfl) rfl
theorem mw_1095 : .fieldLink "PlainOriginModel" 130 "PlainOriginModel" "begins" "[I" ∈ UW := uw_4_4 (List.mem_of_getElem? (i := 12) rfl) rfl
theorem mw_1096 : .fieldLink "PlainOriginModel" 133 "PlainOriginModel" "ends" "[I" ∈ UW := uw_4_4 (List.mem_of_getElem? (i := 13) rfl) rfl
theorem mw_1097 : .fieldLink "PlainOriginModel" 136 "PlainOriginModel" "status" "I" ∈ UW := uw_4_4 (List.mem_of_getElem? (i := 14) rfl) rfl
theorem mw_1098 : .fieldLink "PlainOriginModel" 165 "PlainOriginModel" "responses" "I" ∈ UW := uw_4_4 (List.mem_of_getElem? (i := 15) rfl) rfl
theorem mw_1099 : .fieldLink "PlainOriginModel" 297 "PlainOriginModel" "sent" "I" ∈ UW := uw_4_5 (List.mem_of_getElem? (i := 0) rfl) rfl
theorem mw_1100 : .fieldLink "PlainOriginModel" 139 "PlainOriginModel" "out" "[I" ∈ UW := uw_4_5 (List.mem_of_getElem? (i := 1) rfl) rfl
theorem mw_1101 : .laysFinal "PlainOriginModel" "PlainOriginModel" "words" "[J" ∈ UW := uw_4_5 (List.mem_of_getElem? (i := 2) rfl) rfl
theorem mw_1103 : .lays "PlainOriginModel" "PlainOriginModel" "code" "I" ∈ UW := uw_4_5 (List.mem_of_getElem? (i := 4) rfl) rfl
theorem mw_1105 : .laysFinal "PlainOriginModel" "PlainOriginModel" "there" "[Z" ∈ UW := uw_4_5 (List.mem_of_getElem? (i := 6) rfl) rfl
theorem mw_1107 : .laysFinal "PlainOriginModel" "PlainOriginModel" "marks" "[I" ∈ UW := uw_4_5 (List.mem_of_getElem? (i := 8) rfl) rfl
theorem mw_1109 : .laysFinal "PlainOriginModel" "PlainOriginModel" "sizes" "[I" ∈ UW := uw_4_5 (List.mem_of_getElem? (i := 10) rfl) rfl
theorem mw_1111 : .laysFinal "PlainOriginModel" "PlainOriginModel" "content" "[I" ∈ UW := uw_4_5 (List.mem_of_getElem? (i := 12) rfl) rfl
theorem mw_1113 : .lays "PlainOriginModel" "PlainOriginModel" "changes" "I" ∈ UW := uw_4_5 (List.mem_of_getElem? (i := 14) rfl) rfl
theorem mw_1115 : .lays "PlainOriginModel" "PlainOriginModel" "open" "Z" ∈ UW := uw_4_6 (List.mem_of_getElem? (i := 0) rfl) rfl
theorem mw_1117 : .lays "PlainOriginModel" "PlainOriginModel" "stage" "I" ∈ UW := uw_4_6 (List.mem_of_getElem? (i := 2) rfl) rfl
theorem mw_1119 : .lays "PlainOriginModel" "PlainOriginModel" "half" "Z" ∈ UW := uw_4_6 (List.mem_of_getElem? (i := 4) rfl) rfl
theorem mw_1121 : .lays "PlainOriginModel" "PlainOriginModel" "lineSize" "I" ∈ UW := uw_4_6 (List.mem_of_getElem? (i := 6) rfl) rfl
theorem mw_1123 : .laysFinal "PlainOriginModel" "PlainOriginModel" "line" "[I" ∈ UW := uw_4_6 (List.mem_of_getElem? (i := 8) rfl) rfl
theorem mw_1125 : .lays "PlainOriginModel" "PlainOriginModel" "method" "I" ∈ UW := uw_4_6 (List.mem_of_getElem? (i := 10) rfl) rfl
theorem mw_1127 : .lays "PlainOriginModel" "PlainOriginModel" "targetSize" "I" ∈ UW := uw_4_6 (List.mem_of_getElem? (i := 12) rfl) rfl
theorem mw_1129 : .laysFinal "PlainOriginModel" "PlainOriginModel" "target" "[I" ∈ UW := uw_4_6 (List.mem_of_getElem? (i := 14) rfl) rfl
theorem mw_1131 : .lays "PlainOriginModel" "PlainOriginModel" "minor" "I" ∈ UW := uw_4_7 (List.mem_of_getElem? (i := 0) rfl) rfl
theorem mw_1133 : .lays "PlainOriginModel" "PlainOriginModel" "last" "Z" ∈ UW := uw_4_7 (List.mem_of_getElem? (i := 2) rfl) rfl
theorem mw_1135 : .lays "PlainOriginModel" "PlainOriginModel" "fields" "I" ∈ UW := uw_4_7 (List.mem_of_getElem? (i := 4) rfl) rfl
theorem mw_1137 : .laysFinal "PlainOriginModel" "PlainOriginModel" "text" "[I" ∈ UW := uw_4_7 (List.mem_of_getElem? (i := 6) rfl) rfl
theorem mw_1139 : .laysFinal "PlainOriginModel" "PlainOriginModel" "colon" "[I" ∈ UW := uw_4_7 (List.mem_of_getElem? (i := 8) rfl) rfl
theorem mw_1141 : .laysFinal "PlainOriginModel" "PlainOriginModel" "textSize" "[I" ∈ UW := uw_4_7 (List.mem_of_getElem? (i := 10) rfl) rfl
theorem mw_1143 : .lays "PlainOriginModel" "PlainOriginModel" "due" "I" ∈ UW := uw_4_7 (List.mem_of_getElem? (i := 12) rfl) rfl
theorem mw_1145 : .lays "PlainOriginModel" "PlainOriginModel" "bodySize" "I" ∈ UW := uw_4_7 (List.mem_of_getElem? (i := 14) rfl) rfl
theorem mw_1147 : .laysFinal "PlainOriginModel" "PlainOriginModel" "body" "[I" ∈ UW := uw_4_8 (List.mem_of_getElem? (i := 0) rfl) rfl
theorem mw_1149 : .lays "PlainOriginModel" "PlainOriginModel" "trailers" "I" ∈ UW := uw_4_8 (List.mem_of_getElem? (i := 2) rfl) rfl
theorem mw_1151 : .lays "PlainOriginModel" "PlainOriginModel" "wrong" "I" ∈ UW := uw_4_8 (List.mem_of_getElem? (i := 4) rfl) rfl
theorem mw_1153 : .lays "PlainOriginModel" "PlainOriginModel" "elements" "I" ∈ UW := uw_4_8 (List.mem_of_getElem? (i := 6) rfl) rfl
theorem mw_1155 : .laysFinal "PlainOriginModel" "PlainOriginModel" "begins" "[I" ∈ UW := uw_4_8 (List.mem_of_getElem? (i := 8) rfl) rfl
theorem mw_1157 : .laysFinal "PlainOriginModel" "PlainOriginModel" "ends" "[I" ∈ UW := uw_4_8 (List.mem_of_getElem? (i := 10) rfl) rfl
theorem mw_1159 : .lays "PlainOriginModel" "PlainOriginModel" "status" "I" ∈ UW := uw_4_8 (List.mem_of_getElem? (i := 12) rfl) rfl
theorem mw_1161 : .lays "PlainOriginModel" "PlainOriginModel" "responses" "I" ∈ UW := uw_4_8 (List.mem_of_getElem? (i := 14) rfl) rfl
theorem mw_1163 : .lays "PlainOriginModel" "PlainOriginModel" "sent" "I" ∈ UW := uw_4_9 (List.mem_of_getElem? (i := 0) rfl) rfl
theorem mw_1165 : .laysFinal "PlainOriginModel" "PlainOriginModel" "out" "[I" ∈ UW := uw_4_9 (List.mem_of_getElem? (i := 2) rfl) rfl
theorem mw_1168 : .arrayClass .long ∈ UW := uw_4_9 (List.mem_of_getElem? (i := 5) rfl) rfl
theorem mw_1169 : .arrayClass .boolean ∈ UW := uw_4_9 (List.mem_of_getElem? (i := 6) rfl) rfl
theorem mw_1170 : .methodLink "PlainOriginLaw" 46 ⟨"PlainOriginModel", "thrown", "()I"⟩ ∈ UW := uw_4_9 (List.mem_of_getElem? (i := 7) rfl) rfl
theorem mw_1171 : .instanceMethod ⟨"PlainOriginModel", "thrown", "()I"⟩ ∈ UW := uw_4_9 (List.mem_of_getElem? (i := 8) rfl) rfl
theorem mw_1172 : .selects "PlainOriginModel" ⟨"PlainOriginModel", "thrown", "()I"⟩ ⟨"PlainOriginModel", "thrown", "()I"⟩ ∈ UW := uw_4_9 (List.mem_of_getElem? (i := 9) rfl) rfl
theorem mw_1173 : .code ⟨"PlainOriginModel", "thrown", "()I"⟩ prog_14_method_2_code 1 (some .int) ∈ UW := uw_4_9 (List.mem_of_getElem? (i := 10) rfl) rfl
theorem mw_1174 : .methodLink "PlainOriginLaw" 45 ⟨"PlainOriginModel", "feed", "(JI)I"⟩ ∈ UW := uw_4_9 (List.mem_of_getElem? (i := 11) rfl) rfl
theorem mw_1175 : .instanceMethod ⟨"PlainOriginModel", "feed", "(JI)I"⟩ ∈ UW := uw_4_9 (List.mem_of_getElem? (i := 12) rfl) rfl
theorem mw_1176 : .selects "PlainOriginModel" ⟨"PlainOriginModel", "feed", "(JI)I"⟩ ⟨"PlainOriginModel", "feed", "(JI)I"⟩ ∈ UW := uw_4_9 (List.mem_of_getElem? (i := 13) rfl) rfl
theorem mw_1177 : .code ⟨"PlainOriginModel", "feed", "(JI)I"⟩ prog_14_method_13_code 6 (some .int) ∈ UW := uw_4_9 (List.mem_of_getElem? (i := 14) rfl) rfl
theorem mw_1178 : .methodLink "PlainOriginModel" 147 ⟨"PlainOriginModel", "within", "(III)Z"⟩ ∈ UW := uw_4_9 (List.mem_of_getElem? (i := 15) rfl) rfl
theorem mw_1179 : .static ⟨"PlainOriginModel", "within", "(III)Z"⟩ ∈ UW := uw_4_10 (List.mem_of_getElem? (i := 0) rfl) rfl
theorem mw_1180 : .code ⟨"PlainOriginModel", "within", "(III)Z"⟩ prog_14_method_4_code 3 (some .boolean) ∈ UW := uw_4_10 (List.mem_of_getElem? (i := 1) rfl) rfl
theorem mw_1181 : .constantLong "PlainOriginModel" 145 (255) ∈ UW := uw_4_10 (List.mem_of_getElem? (i := 2) rfl) rfl
theorem mw_1182 : .methodLink "PlainOriginModel" 168 ⟨"PlainOriginModel", "take", "(I)V"⟩ ∈ UW := uw_4_10 (List.mem_of_getElem? (i := 3) rfl) rfl
theorem mw_1184 : .instanceMethod ⟨"PlainOriginModel", "take", "(I)V"⟩ ∈ UW := uw_4_10 (List.mem_of_getElem? (i := 5) rfl) rfl
theorem mw_1185 : .code ⟨"PlainOriginModel", "take", "(I)V"⟩ prog_14_method_14_code 2 none ∈ UW := uw_4_10 (List.mem_of_getElem? (i := 6) rfl) rfl
theorem mw_1186 : .methodLink "PlainOriginModel" 188 ⟨"PlainOriginModel", "answer", "()V"⟩ ∈ UW := uw_4_10 (List.mem_of_getElem? (i := 7) rfl) rfl
theorem mw_1188 : .instanceMethod ⟨"PlainOriginModel", "answer", "()V"⟩ ∈ UW := uw_4_10 (List.mem_of_getElem? (i := 9) rfl) rfl
theorem mw_1189 : .code ⟨"PlainOriginModel", "answer", "()V"⟩ prog_14_method_42_code 3 none ∈ UW := uw_4_10 (List.mem_of_getElem? (i := 10) rfl) rfl
theorem mw_1190 : .methodLink "PlainOriginModel" 309 ⟨"PlainOriginModel", "resource", "()I"⟩ ∈ UW := uw_4_10 (List.mem_of_getElem? (i := 11) rfl) rfl
theorem mw_1192 : .instanceMethod ⟨"PlainOriginModel", "resource", "()I"⟩ ∈ UW := uw_4_10 (List.mem_of_getElem? (i := 13) rfl) rfl
theorem mw_1193 : .code ⟨"PlainOriginModel", "resource", "()I"⟩ prog_14_method_41_code 7 (some .int) ∈ UW := uw_4_10 (List.mem_of_getElem? (i := 14) rfl) rfl
theorem mw_1194 : .methodLink "PlainOriginModel" 219 ⟨"PlainOriginModel", "hexOf", "(I)I"⟩ ∈ UW := uw_4_10 (List.mem_of_getElem? (i := 15) rfl) rfl
theorem mw_1195 : .static ⟨"PlainOriginModel", "hexOf", "(I)I"⟩ ∈ UW := uw_4_11 (List.mem_of_getElem? (i := 0) rfl) rfl
theorem mw_1196 : .code ⟨"PlainOriginModel", "hexOf", "(I)I"⟩ prog_14_method_8_code 1 (some .int) ∈ UW := uw_4_11 (List.mem_of_getElem? (i := 1) rfl) rfl
theorem mw_1197 : .methodLink "PlainOriginModel" 151 ⟨"PlainOriginModel", "isDigit", "(I)Z"⟩ ∈ UW := uw_4_11 (List.mem_of_getElem? (i := 2) rfl) rfl
theorem mw_1198 : .static ⟨"PlainOriginModel", "isDigit", "(I)Z"⟩ ∈ UW := uw_4_11 (List.mem_of_getElem? (i := 3) rfl) rfl
theorem mw_1199 : .code ⟨"PlainOriginModel", "isDigit", "(I)Z"⟩ prog_14_method_5_code 1 (some .boolean) ∈ UW := uw_4_11 (List.mem_of_getElem? (i := 4) rfl) rfl
theorem mw_1200 : .methodLink "PlainOriginModel" 155 ⟨"PlainOriginModel", "small", "(I)I"⟩ ∈ UW := uw_4_11 (List.mem_of_getElem? (i := 5) rfl) rfl
theorem mw_1201 : .static ⟨"PlainOriginModel", "small", "(I)I"⟩ ∈ UW := uw_4_11 (List.mem_of_getElem? (i := 6) rfl) rfl
theorem mw_1202 : .code ⟨"PlainOriginModel", "small", "(I)I"⟩ prog_14_method_7_code 1 (some .int) ∈ UW := uw_4_11 (List.mem_of_getElem? (i := 7) rfl) rfl
theorem mw_1203 : .methodLink "PlainOriginModel" 175 ⟨"PlainOriginModel", "respond", "(IIIIII)V"⟩ ∈ UW := uw_4_11 (List.mem_of_getElem? (i := 8) rfl) rfl
theorem mw_1205 : .instanceMethod ⟨"PlainOriginModel", "respond", "(IIIIII)V"⟩ ∈ UW := uw_4_11 (List.mem_of_getElem? (i := 10) rfl) rfl
theorem mw_1206 : .code ⟨"PlainOriginModel", "respond", "(IIIIII)V"⟩ prog_14_method_40_code 7 none ∈ UW := uw_4_11 (List.mem_of_getElem? (i := 11) rfl) rfl
theorem mw_1207 : .methodLink "PlainOriginModel" 291 ⟨"PlainOriginModel", "sayStatus", "(I)V"⟩ ∈ UW := uw_4_11 (List.mem_of_getElem? (i := 12) rfl) rfl
theorem mw_1209 : .instanceMethod ⟨"PlainOriginModel", "sayStatus", "(I)V"⟩ ∈ UW := uw_4_11 (List.mem_of_getElem? (i := 14) rfl) rfl
theorem mw_1210 : .code ⟨"PlainOriginModel", "sayStatus", "(I)V"⟩ prog_14_method_39_code 2 none ∈ UW := uw_4_11 (List.mem_of_getElem? (i := 15) rfl) rfl
theorem mw_1211 : .methodLink "PlainOriginModel" 300 ⟨"PlainOriginModel", "sayWord", "(I)V"⟩ ∈ UW := uw_4_12 (List.mem_of_getElem? (i := 0) rfl) rfl
theorem mw_1213 : .instanceMethod ⟨"PlainOriginModel", "sayWord", "(I)V"⟩ ∈ UW := uw_4_12 (List.mem_of_getElem? (i := 2) rfl) rfl
theorem mw_1214 : .code ⟨"PlainOriginModel", "sayWord", "(I)V"⟩ prog_14_method_36_code 3 none ∈ UW := uw_4_12 (List.mem_of_getElem? (i := 3) rfl) rfl
theorem mw_1215 : .methodLink "PlainOriginModel" 225 ⟨"PlainOriginModel", "letter", "(I)I"⟩ ∈ UW := uw_4_12 (List.mem_of_getElem? (i := 4) rfl) rfl
theorem mw_1217 : .instanceMethod ⟨"PlainOriginModel", "letter", "(I)I"⟩ ∈ UW := uw_4_12 (List.mem_of_getElem? (i := 6) rfl) rfl
theorem mw_1218 : .code ⟨"PlainOriginModel", "letter", "(I)I"⟩ prog_14_method_3_code 2 (some .int) ∈ UW := uw_4_12 (List.mem_of_getElem? (i := 7) rfl) rfl
theorem mw_1219 : .methodLink "PlainOriginModel" 294 ⟨"PlainOriginModel", "say", "(I)V"⟩ ∈ UW := uw_4_12 (List.mem_of_getElem? (i := 8) rfl) rfl
theorem mw_1221 : .instanceMethod ⟨"PlainOriginModel", "say", "(I)V"⟩ ∈ UW := uw_4_12 (List.mem_of_getElem? (i := 10) rfl) rfl
theorem mw_1222 : .code ⟨"PlainOriginModel", "say", "(I)V"⟩ prog_14_method_35_code 2 none ∈ UW := uw_4_12 (List.mem_of_getElem? (i := 11) rfl) rfl
theorem mw_1223 : .methodLink "PlainOriginModel" 303 ⟨"PlainOriginModel", "sayNumber", "(I)V"⟩ ∈ UW := uw_4_12 (List.mem_of_getElem? (i := 12) rfl) rfl
theorem mw_1225 : .instanceMethod ⟨"PlainOriginModel", "sayNumber", "(I)V"⟩ ∈ UW := uw_4_12 (List.mem_of_getElem? (i := 14) rfl) rfl
theorem mw_1226 : .code ⟨"PlainOriginModel", "sayNumber", "(I)V"⟩ prog_14_method_37_code 3 none ∈ UW := uw_4_12 (List.mem_of_getElem? (i := 15) rfl) rfl
theorem mw_1227 : .methodLink "PlainOriginModel" 306 ⟨"PlainOriginModel", "endSaying", "()V"⟩ ∈ UW := uw_4_13 (List.mem_of_getElem? (i := 0) rfl) rfl
theorem mw_1229 : .instanceMethod ⟨"PlainOriginModel", "endSaying", "()V"⟩ ∈ UW := uw_4_13 (List.mem_of_getElem? (i := 2) rfl) rfl
theorem mw_1230 : .code ⟨"PlainOriginModel", "endSaying", "()V"⟩ prog_14_method_38_code 1 none ∈ UW := uw_4_13 (List.mem_of_getElem? (i := 3) rfl) rfl
theorem mw_1231 : .methodLink "PlainOriginModel" 313 ⟨"PlainOriginModel", "tellSite", "()V"⟩ ∈ UW := uw_4_13 (List.mem_of_getElem? (i := 4) rfl) rfl
theorem mw_1233 : .instanceMethod ⟨"PlainOriginModel", "tellSite", "()V"⟩ ∈ UW := uw_4_13 (List.mem_of_getElem? (i := 6) rfl) rfl
theorem mw_1234 : .code ⟨"PlainOriginModel", "tellSite", "()V"⟩ prog_14_method_43_code 3 none ∈ UW := uw_4_13 (List.mem_of_getElem? (i := 7) rfl) rfl
theorem mw_1235 : .methodLink "PlainOriginModel" 316 ⟨"PlainOriginModel", "tell", "(I)V"⟩ ∈ UW := uw_4_13 (List.mem_of_getElem? (i := 8) rfl) rfl
theorem mw_1237 : .instanceMethod ⟨"PlainOriginModel", "tell", "(I)V"⟩ ∈ UW := uw_4_13 (List.mem_of_getElem? (i := 10) rfl) rfl
theorem mw_1238 : .code ⟨"PlainOriginModel", "tell", "(I)V"⟩ prog_14_method_45_code 15 none ∈ UW := uw_4_13 (List.mem_of_getElem? (i := 11) rfl) rfl
theorem mw_1239 : .methodLink "PlainOriginModel" 322 ⟨"PlainOriginModel", "isKnown", "(I)Z"⟩ ∈ UW := uw_4_13 (List.mem_of_getElem? (i := 12) rfl) rfl
theorem mw_1241 : .instanceMethod ⟨"PlainOriginModel", "isKnown", "(I)Z"⟩ ∈ UW := uw_4_13 (List.mem_of_getElem? (i := 14) rfl) rfl
theorem mw_1242 : .code ⟨"PlainOriginModel", "isKnown", "(I)Z"⟩ prog_14_method_44_code 8 (some .boolean) ∈ UW := uw_4_13 (List.mem_of_getElem? (i := 15) rfl) rfl
theorem mw_1243 : .methodLink "PlainOriginModel" 270 ⟨"PlainOriginModel", "list", "(I)V"⟩ ∈ UW := uw_4_14 (List.mem_of_getElem? (i := 0) rfl) rfl
theorem mw_1245 : .instanceMethod ⟨"PlainOriginModel", "list", "(I)V"⟩ ∈ UW := uw_4_14 (List.mem_of_getElem? (i := 2) rfl) rfl
theorem mw_1246 : .code ⟨"PlainOriginModel", "list", "(I)V"⟩ prog_14_method_27_code 5 none ∈ UW := uw_4_14 (List.mem_of_getElem? (i := 3) rfl) rfl
theorem mw_1247 : .methodLink "PlainOriginModel" 257 ⟨"PlainOriginModel", "isNamed", "(II)Z"⟩ ∈ UW := uw_4_14 (List.mem_of_getElem? (i := 4) rfl) rfl
theorem mw_1249 : .instanceMethod ⟨"PlainOriginModel", "isNamed", "(II)Z"⟩ ∈ UW := uw_4_14 (List.mem_of_getElem? (i := 6) rfl) rfl
theorem mw_1250 : .code ⟨"PlainOriginModel", "isNamed", "(II)Z"⟩ prog_14_method_23_code 3 (some .boolean) ∈ UW := uw_4_14 (List.mem_of_getElem? (i := 7) rfl) rfl
theorem mw_1251 : .methodLink "PlainOriginModel" 254 ⟨"PlainOriginModel", "isWord", "(III)Z"⟩ ∈ UW := uw_4_14 (List.mem_of_getElem? (i := 8) rfl) rfl
theorem mw_1253 : .instanceMethod ⟨"PlainOriginModel", "isWord", "(III)Z"⟩ ∈ UW := uw_4_14 (List.mem_of_getElem? (i := 10) rfl) rfl
theorem mw_1254 : .code ⟨"PlainOriginModel", "isWord", "(III)Z"⟩ prog_14_method_22_code 6 (some .boolean) ∈ UW := uw_4_14 (List.mem_of_getElem? (i := 11) rfl) rfl
theorem mw_1255 : .methodLink "PlainOriginModel" 266 ⟨"PlainOriginModel", "notice", "(II)V"⟩ ∈ UW := uw_4_14 (List.mem_of_getElem? (i := 12) rfl) rfl
theorem mw_1257 : .instanceMethod ⟨"PlainOriginModel", "notice", "(II)V"⟩ ∈ UW := uw_4_14 (List.mem_of_getElem? (i := 14) rfl) rfl
theorem mw_1258 : .code ⟨"PlainOriginModel", "notice", "(II)V"⟩ prog_14_method_26_code 5 none ∈ UW := uw_4_14 (List.mem_of_getElem? (i := 15) rfl) rfl
theorem mw_1259 : .methodLink "PlainOriginModel" 260 ⟨"PlainOriginModel", "isBlank", "(I)Z"⟩ ∈ UW := uw_5_0 (List.mem_of_getElem? (i := 0) rfl) rfl
theorem mw_1261 : .instanceMethod ⟨"PlainOriginModel", "isBlank", "(I)Z"⟩ ∈ UW := uw_5_0 (List.mem_of_getElem? (i := 2) rfl) rfl
theorem mw_1262 : .code ⟨"PlainOriginModel", "isBlank", "(I)Z"⟩ prog_14_method_25_code 2 (some .boolean) ∈ UW := uw_5_0 (List.mem_of_getElem? (i := 3) rfl) rfl
theorem mw_1263 : .methodLink "PlainOriginModel" 276 ⟨"PlainOriginModel", "numberAt", "(II)I"⟩ ∈ UW := uw_5_0 (List.mem_of_getElem? (i := 4) rfl) rfl
theorem mw_1265 : .instanceMethod ⟨"PlainOriginModel", "numberAt", "(II)I"⟩ ∈ UW := uw_5_0 (List.mem_of_getElem? (i := 6) rfl) rfl
theorem mw_1266 : .code ⟨"PlainOriginModel", "numberAt", "(II)I"⟩ prog_14_method_29_code 6 (some .int) ∈ UW := uw_5_0 (List.mem_of_getElem? (i := 7) rfl) rfl
theorem mw_1267 : .methodLink "PlainOriginModel" 273 ⟨"PlainOriginModel", "count", "(I)I"⟩ ∈ UW := uw_5_0 (List.mem_of_getElem? (i := 8) rfl) rfl
theorem mw_1269 : .instanceMethod ⟨"PlainOriginModel", "count", "(I)I"⟩ ∈ UW := uw_5_0 (List.mem_of_getElem? (i := 10) rfl) rfl
theorem mw_1270 : .code ⟨"PlainOriginModel", "count", "(I)I"⟩ prog_14_method_24_code 4 (some .int) ∈ UW := uw_5_0 (List.mem_of_getElem? (i := 11) rfl) rfl
theorem mw_1271 : .methodLink "PlainOriginModel" 319 ⟨"PlainOriginModel", "change", "(I)V"⟩ ∈ UW := uw_5_0 (List.mem_of_getElem? (i := 12) rfl) rfl
theorem mw_1273 : .instanceMethod ⟨"PlainOriginModel", "change", "(I)V"⟩ ∈ UW := uw_5_0 (List.mem_of_getElem? (i := 14) rfl) rfl
theorem mw_1274 : .code ⟨"PlainOriginModel", "change", "(I)V"⟩ prog_14_method_47_code 6 none ∈ UW := uw_5_0 (List.mem_of_getElem? (i := 15) rfl) rfl
theorem mw_1275 : .methodLink "PlainOriginModel" 325 ⟨"PlainOriginModel", "hasStar", "()Z"⟩ ∈ UW := uw_5_1 (List.mem_of_getElem? (i := 0) rfl) rfl
theorem mw_1277 : .instanceMethod ⟨"PlainOriginModel", "hasStar", "()Z"⟩ ∈ UW := uw_5_1 (List.mem_of_getElem? (i := 2) rfl) rfl
theorem mw_1278 : .code ⟨"PlainOriginModel", "hasStar", "()Z"⟩ prog_14_method_46_code 3 (some .boolean) ∈ UW := uw_5_1 (List.mem_of_getElem? (i := 3) rfl) rfl
theorem mw_1279 : .methodLink "PlainOriginModel" 194 ⟨"PlainOriginModel", "blame", "(ZI)V"⟩ ∈ UW := uw_5_1 (List.mem_of_getElem? (i := 4) rfl) rfl
theorem mw_1281 : .instanceMethod ⟨"PlainOriginModel", "blame", "(ZI)V"⟩ ∈ UW := uw_5_1 (List.mem_of_getElem? (i := 6) rfl) rfl
theorem mw_1282 : .code ⟨"PlainOriginModel", "blame", "(ZI)V"⟩ prog_14_method_12_code 3 none ∈ UW := uw_5_1 (List.mem_of_getElem? (i := 7) rfl) rfl
theorem mw_1283 : .methodLink "PlainOriginModel" 198 ⟨"PlainOriginModel", "takeLine", "()V"⟩ ∈ UW := uw_5_1 (List.mem_of_getElem? (i := 8) rfl) rfl
theorem mw_1285 : .instanceMethod ⟨"PlainOriginModel", "takeLine", "()V"⟩ ∈ UW := uw_5_1 (List.mem_of_getElem? (i := 10) rfl) rfl
theorem mw_1286 : .code ⟨"PlainOriginModel", "takeLine", "()V"⟩ prog_14_method_15_code 1 none ∈ UW := uw_5_1 (List.mem_of_getElem? (i := 11) rfl) rfl
theorem mw_1287 : .methodLink "PlainOriginModel" 204 ⟨"PlainOriginModel", "takeRequestLine", "()V"⟩ ∈ UW := uw_5_1 (List.mem_of_getElem? (i := 12) rfl) rfl
theorem mw_1289 : .instanceMethod ⟨"PlainOriginModel", "takeRequestLine", "()V"⟩ ∈ UW := uw_5_1 (List.mem_of_getElem? (i := 14) rfl) rfl
theorem mw_1290 : .code ⟨"PlainOriginModel", "takeRequestLine", "()V"⟩ prog_14_method_20_code 8 none ∈ UW := uw_5_1 (List.mem_of_getElem? (i := 15) rfl) rfl
theorem mw_1291 : .methodLink "PlainOriginModel" 231 ⟨"PlainOriginModel", "find", "(II)I"⟩ ∈ UW := uw_5_2 (List.mem_of_getElem? (i := 0) rfl) rfl
theorem mw_1293 : .instanceMethod ⟨"PlainOriginModel", "find", "(II)I"⟩ ∈ UW := uw_5_2 (List.mem_of_getElem? (i := 2) rfl) rfl
theorem mw_1294 : .code ⟨"PlainOriginModel", "find", "(II)I"⟩ prog_14_method_16_code 4 (some .int) ∈ UW := uw_5_2 (List.mem_of_getElem? (i := 3) rfl) rfl
theorem mw_1295 : .methodLink "PlainOriginModel" 235 ⟨"PlainOriginModel", "isToken", "(I)Z"⟩ ∈ UW := uw_5_2 (List.mem_of_getElem? (i := 4) rfl) rfl
theorem mw_1297 : .instanceMethod ⟨"PlainOriginModel", "isToken", "(I)Z"⟩ ∈ UW := uw_5_2 (List.mem_of_getElem? (i := 6) rfl) rfl
theorem mw_1298 : .code ⟨"PlainOriginModel", "isToken", "(I)Z"⟩ prog_14_method_17_code 4 (some .boolean) ∈ UW := uw_5_2 (List.mem_of_getElem? (i := 7) rfl) rfl
theorem mw_1299 : .methodLink "PlainOriginModel" 216 ⟨"PlainOriginModel", "isTokenByte", "(I)Z"⟩ ∈ UW := uw_5_2 (List.mem_of_getElem? (i := 8) rfl) rfl
theorem mw_1300 : .static ⟨"PlainOriginModel", "isTokenByte", "(I)Z"⟩ ∈ UW := uw_5_2 (List.mem_of_getElem? (i := 9) rfl) rfl
theorem mw_1301 : .code ⟨"PlainOriginModel", "isTokenByte", "(I)Z"⟩ prog_14_method_9_code 2 (some .boolean) ∈ UW := uw_5_2 (List.mem_of_getElem? (i := 10) rfl) rfl
theorem mw_1302 : .methodLink "PlainOriginModel" 159 ⟨"PlainOriginModel", "isAlpha", "(I)Z"⟩ ∈ UW := uw_5_2 (List.mem_of_getElem? (i := 11) rfl) rfl
theorem mw_1303 : .static ⟨"PlainOriginModel", "isAlpha", "(I)Z"⟩ ∈ UW := uw_5_2 (List.mem_of_getElem? (i := 12) rfl) rfl
theorem mw_1304 : .code ⟨"PlainOriginModel", "isAlpha", "(I)Z"⟩ prog_14_method_6_code 1 (some .boolean) ∈ UW := uw_5_2 (List.mem_of_getElem? (i := 13) rfl) rfl
theorem mw_1305 : .methodLink "PlainOriginModel" 238 ⟨"PlainOriginModel", "isTarget", "(II)Z"⟩ ∈ UW := uw_5_2 (List.mem_of_getElem? (i := 14) rfl) rfl
theorem mw_1307 : .instanceMethod ⟨"PlainOriginModel", "isTarget", "(II)Z"⟩ ∈ UW := uw_5_3 (List.mem_of_getElem? (i := 0) rfl) rfl
theorem mw_1308 : .code ⟨"PlainOriginModel", "isTarget", "(II)Z"⟩ prog_14_method_18_code 6 (some .boolean) ∈ UW := uw_5_3 (List.mem_of_getElem? (i := 1) rfl) rfl
theorem mw_1309 : .methodLink "PlainOriginModel" 222 ⟨"PlainOriginModel", "isTargetByte", "(I)Z"⟩ ∈ UW := uw_5_3 (List.mem_of_getElem? (i := 2) rfl) rfl
theorem mw_1310 : .static ⟨"PlainOriginModel", "isTargetByte", "(I)Z"⟩ ∈ UW := uw_5_3 (List.mem_of_getElem? (i := 3) rfl) rfl
theorem mw_1311 : .code ⟨"PlainOriginModel", "isTargetByte", "(I)Z"⟩ prog_14_method_10_code 2 (some .boolean) ∈ UW := uw_5_3 (List.mem_of_getElem? (i := 4) rfl) rfl
theorem mw_1312 : .methodLink "PlainOriginModel" 242 ⟨"PlainOriginModel", "isExactly", "(III)Z"⟩ ∈ UW := uw_5_3 (List.mem_of_getElem? (i := 5) rfl) rfl
theorem mw_1314 : .instanceMethod ⟨"PlainOriginModel", "isExactly", "(III)Z"⟩ ∈ UW := uw_5_3 (List.mem_of_getElem? (i := 7) rfl) rfl
theorem mw_1315 : .code ⟨"PlainOriginModel", "isExactly", "(III)Z"⟩ prog_14_method_19_code 6 (some .boolean) ∈ UW := uw_5_3 (List.mem_of_getElem? (i := 8) rfl) rfl
theorem mw_1316 : .methodLink "PlainOriginModel" 207 ⟨"PlainOriginModel", "takeChunkLine", "()V"⟩ ∈ UW := uw_5_3 (List.mem_of_getElem? (i := 9) rfl) rfl
theorem mw_1318 : .instanceMethod ⟨"PlainOriginModel", "takeChunkLine", "()V"⟩ ∈ UW := uw_5_3 (List.mem_of_getElem? (i := 11) rfl) rfl
theorem mw_1319 : .code ⟨"PlainOriginModel", "takeChunkLine", "()V"⟩ prog_14_method_34_code 4 none ∈ UW := uw_5_3 (List.mem_of_getElem? (i := 12) rfl) rfl
theorem mw_1320 : .methodLink "PlainOriginModel" 248 ⟨"PlainOriginModel", "isShown", "(I)Z"⟩ ∈ UW := uw_5_3 (List.mem_of_getElem? (i := 13) rfl) rfl
theorem mw_1321 : .static ⟨"PlainOriginModel", "isShown", "(I)Z"⟩ ∈ UW := uw_5_3 (List.mem_of_getElem? (i := 14) rfl) rfl
theorem mw_1322 : .code ⟨"PlainOriginModel", "isShown", "(I)Z"⟩ prog_14_method_11_code 1 (some .boolean) ∈ UW := uw_5_3 (List.mem_of_getElem? (i := 15) rfl) rfl
theorem mw_1323 : .methodLink "PlainOriginModel" 210 ⟨"PlainOriginModel", "endHead", "()V"⟩ ∈ UW := uw_5_4 (List.mem_of_getElem? (i := 0) rfl) rfl
theorem mw_1325 : .instanceMethod ⟨"PlainOriginModel", "endHead", "()V"⟩ ∈ UW := uw_5_4 (List.mem_of_getElem? (i := 2) rfl) rfl
theorem mw_1326 : .code ⟨"PlainOriginModel", "endHead", "()V"⟩ prog_14_method_33_code 4 none ∈ UW := uw_5_4 (List.mem_of_getElem? (i := 3) rfl) rfl
theorem mw_1327 : .methodLink "PlainOriginModel" 279 ⟨"PlainOriginModel", "checkHost", "()V"⟩ ∈ UW := uw_5_4 (List.mem_of_getElem? (i := 4) rfl) rfl
theorem mw_1329 : .instanceMethod ⟨"PlainOriginModel", "checkHost", "()V"⟩ ∈ UW := uw_5_4 (List.mem_of_getElem? (i := 6) rfl) rfl
theorem mw_1330 : .code ⟨"PlainOriginModel", "checkHost", "()V"⟩ prog_14_method_30_code 5 none ∈ UW := uw_5_4 (List.mem_of_getElem? (i := 7) rfl) rfl
theorem mw_1331 : .methodLink "PlainOriginModel" 282 ⟨"PlainOriginModel", "checkCoding", "()V"⟩ ∈ UW := uw_5_4 (List.mem_of_getElem? (i := 8) rfl) rfl
theorem mw_1333 : .instanceMethod ⟨"PlainOriginModel", "checkCoding", "()V"⟩ ∈ UW := uw_5_4 (List.mem_of_getElem? (i := 10) rfl) rfl
theorem mw_1334 : .code ⟨"PlainOriginModel", "checkCoding", "()V"⟩ prog_14_method_31_code 1 none ∈ UW := uw_5_4 (List.mem_of_getElem? (i := 11) rfl) rfl
theorem mw_1335 : .methodLink "PlainOriginModel" 285 ⟨"PlainOriginModel", "checkLength", "()V"⟩ ∈ UW := uw_5_4 (List.mem_of_getElem? (i := 12) rfl) rfl
theorem mw_1337 : .instanceMethod ⟨"PlainOriginModel", "checkLength", "()V"⟩ ∈ UW := uw_5_4 (List.mem_of_getElem? (i := 14) rfl) rfl
theorem mw_1338 : .code ⟨"PlainOriginModel", "checkLength", "()V"⟩ prog_14_method_32_code 3 none ∈ UW := uw_5_4 (List.mem_of_getElem? (i := 15) rfl) rfl
theorem mw_1339 : .methodLink "PlainOriginModel" 288 ⟨"PlainOriginModel", "has", "(II)Z"⟩ ∈ UW := uw_5_5 (List.mem_of_getElem? (i := 0) rfl) rfl
theorem mw_1341 : .instanceMethod ⟨"PlainOriginModel", "has", "(II)Z"⟩ ∈ UW := uw_5_5 (List.mem_of_getElem? (i := 2) rfl) rfl
theorem mw_1342 : .code ⟨"PlainOriginModel", "has", "(II)Z"⟩ prog_14_method_28_code 5 (some .boolean) ∈ UW := uw_5_5 (List.mem_of_getElem? (i := 3) rfl) rfl
theorem mw_1343 : .methodLink "PlainOriginModel" 213 ⟨"PlainOriginModel", "takeField", "()V"⟩ ∈ UW := uw_5_5 (List.mem_of_getElem? (i := 4) rfl) rfl
theorem mw_1345 : .instanceMethod ⟨"PlainOriginModel", "takeField", "()V"⟩ ∈ UW := uw_5_5 (List.mem_of_getElem? (i := 6) rfl) rfl
theorem mw_1346 : .code ⟨"PlainOriginModel", "takeField", "()V"⟩ prog_14_method_21_code 3 none ∈ UW := uw_5_5 (List.mem_of_getElem? (i := 7) rfl) rfl
theorem mw_1347 : .methodLink "PlainOriginLaw" 54 ⟨"PlainOriginModel", "isOpen", "()Z"⟩ ∈ UW := uw_5_5 (List.mem_of_getElem? (i := 8) rfl) rfl
theorem mw_1348 : .instanceMethod ⟨"PlainOriginModel", "isOpen", "()Z"⟩ ∈ UW := uw_5_5 (List.mem_of_getElem? (i := 9) rfl) rfl
theorem mw_1349 : .selects "PlainOriginModel" ⟨"PlainOriginModel", "isOpen", "()Z"⟩ ⟨"PlainOriginModel", "isOpen", "()Z"⟩ ∈ UW := uw_5_5 (List.mem_of_getElem? (i := 10) rfl) rfl
theorem mw_1350 : .code ⟨"PlainOriginModel", "isOpen", "()Z"⟩ prog_14_method_48_code 1 (some .boolean) ∈ UW := uw_5_5 (List.mem_of_getElem? (i := 11) rfl) rfl
theorem mw_1351 : .methodLink "PlainOriginLaw" 58 ⟨"PlainOriginModel", "connect", "()V"⟩ ∈ UW := uw_5_5 (List.mem_of_getElem? (i := 12) rfl) rfl
theorem mw_1352 : .instanceMethod ⟨"PlainOriginModel", "connect", "()V"⟩ ∈ UW := uw_5_5 (List.mem_of_getElem? (i := 13) rfl) rfl
theorem mw_1353 : .selects "PlainOriginModel" ⟨"PlainOriginModel", "connect", "()V"⟩ ⟨"PlainOriginModel", "connect", "()V"⟩ ∈ UW := uw_5_5 (List.mem_of_getElem? (i := 14) rfl) rfl
theorem mw_1354 : .code ⟨"PlainOriginModel", "connect", "()V"⟩ prog_14_method_49_code 1 none ∈ UW := uw_5_5 (List.mem_of_getElem? (i := 15) rfl) rfl
theorem mw_1355 : .methodLink "PlainOriginLaw" 62 ⟨"PlainOriginModel", "sent", "()I"⟩ ∈ UW := uw_5_6 (List.mem_of_getElem? (i := 0) rfl) rfl
theorem mw_1356 : .instanceMethod ⟨"PlainOriginModel", "sent", "()I"⟩ ∈ UW := uw_5_6 (List.mem_of_getElem? (i := 1) rfl) rfl
theorem mw_1357 : .selects "PlainOriginModel" ⟨"PlainOriginModel", "sent", "()I"⟩ ⟨"PlainOriginModel", "sent", "()I"⟩ ∈ UW := uw_5_6 (List.mem_of_getElem? (i := 2) rfl) rfl
theorem mw_1358 : .code ⟨"PlainOriginModel", "sent", "()I"⟩ prog_14_method_50_code 1 (some .int) ∈ UW := uw_5_6 (List.mem_of_getElem? (i := 3) rfl) rfl
theorem mw_1359 : .methodLink "PlainOriginLaw" 66 ⟨"PlainOriginModel", "out", "(I)J"⟩ ∈ UW := uw_5_6 (List.mem_of_getElem? (i := 4) rfl) rfl
theorem mw_1360 : .instanceMethod ⟨"PlainOriginModel", "out", "(I)J"⟩ ∈ UW := uw_5_6 (List.mem_of_getElem? (i := 5) rfl) rfl
theorem mw_1361 : .selects "PlainOriginModel" ⟨"PlainOriginModel", "out", "(I)J"⟩ ⟨"PlainOriginModel", "out", "(I)J"⟩ ∈ UW := uw_5_6 (List.mem_of_getElem? (i := 6) rfl) rfl
theorem mw_1362 : .code ⟨"PlainOriginModel", "out", "(I)J"⟩ prog_14_method_51_code 5 (some .long) ∈ UW := uw_5_6 (List.mem_of_getElem? (i := 7) rfl) rfl
theorem mw_1363 : .methodLink "PlainOriginLaw" 70 ⟨"PlainOriginModel", "drain", "()I"⟩ ∈ UW := uw_5_6 (List.mem_of_getElem? (i := 8) rfl) rfl
theorem mw_1364 : .instanceMethod ⟨"PlainOriginModel", "drain", "()I"⟩ ∈ UW := uw_5_6 (List.mem_of_getElem? (i := 9) rfl) rfl
theorem mw_1365 : .selects "PlainOriginModel" ⟨"PlainOriginModel", "drain", "()I"⟩ ⟨"PlainOriginModel", "drain", "()I"⟩ ∈ UW := uw_5_6 (List.mem_of_getElem? (i := 10) rfl) rfl
theorem mw_1366 : .code ⟨"PlainOriginModel", "drain", "()I"⟩ prog_14_method_52_code 2 (some .int) ∈ UW := uw_5_6 (List.mem_of_getElem? (i := 11) rfl) rfl
theorem mw_1367 : .methodLink "PlainOriginLaw" 74 ⟨"PlainOriginModel", "status", "()I"⟩ ∈ UW := uw_5_6 (List.mem_of_getElem? (i := 12) rfl) rfl
theorem mw_1368 : .instanceMethod ⟨"PlainOriginModel", "status", "()I"⟩ ∈ UW := uw_5_6 (List.mem_of_getElem? (i := 13) rfl) rfl
theorem mw_1369 : .selects "PlainOriginModel" ⟨"PlainOriginModel", "status", "()I"⟩ ⟨"PlainOriginModel", "status", "()I"⟩ ∈ UW := uw_5_6 (List.mem_of_getElem? (i := 14) rfl) rfl
theorem mw_1370 : .code ⟨"PlainOriginModel", "status", "()I"⟩ prog_14_method_53_code 1 (some .int) ∈ UW := uw_5_6 (List.mem_of_getElem? (i := 15) rfl) rfl
theorem mw_1371 : .methodLink "PlainOriginLaw" 78 ⟨"PlainOriginModel", "reading", "()I"⟩ ∈ UW := uw_5_7 (List.mem_of_getElem? (i := 0) rfl) rfl
theorem mw_1372 : .instanceMethod ⟨"PlainOriginModel", "reading", "()I"⟩ ∈ UW := uw_5_7 (List.mem_of_getElem? (i := 1) rfl) rfl
theorem mw_1373 : .selects "PlainOriginModel" ⟨"PlainOriginModel", "reading", "()I"⟩ ⟨"PlainOriginModel", "reading", "()I"⟩ ∈ UW := uw_5_7 (List.mem_of_getElem? (i := 2) rfl) rfl
theorem mw_1374 : .code ⟨"PlainOriginModel", "reading", "()I"⟩ prog_14_method_54_code 1 (some .int) ∈ UW := uw_5_7 (List.mem_of_getElem? (i := 3) rfl) rfl
theorem mw_1375 : .methodLink "PlainOriginLaw" 81 ⟨"PlainOriginModel", "size", "(I)I"⟩ ∈ UW := uw_5_7 (List.mem_of_getElem? (i := 4) rfl) rfl
theorem mw_1376 : .instanceMethod ⟨"PlainOriginModel", "size", "(I)I"⟩ ∈ UW := uw_5_7 (List.mem_of_getElem? (i := 5) rfl) rfl
theorem mw_1377 : .selects "PlainOriginModel" ⟨"PlainOriginModel", "size", "(I)I"⟩ ⟨"PlainOriginModel", "size", "(I)I"⟩ ∈ UW := uw_5_7 (List.mem_of_getElem? (i := 6) rfl) rfl
theorem mw_1378 : .code ⟨"PlainOriginModel", "size", "(I)I"⟩ prog_14_method_55_code 2 (some .int) ∈ UW := uw_5_7 (List.mem_of_getElem? (i := 7) rfl) rfl
theorem mw_1379 : .methodLink "PlainOriginLaw" 85 ⟨"PlainOriginModel", "at", "(II)I"⟩ ∈ UW := uw_5_7 (List.mem_of_getElem? (i := 8) rfl) rfl
theorem mw_1380 : .instanceMethod ⟨"PlainOriginModel", "at", "(II)I"⟩ ∈ UW := uw_5_7 (List.mem_of_getElem? (i := 9) rfl) rfl
theorem mw_1381 : .selects "PlainOriginModel" ⟨"PlainOriginModel", "at", "(II)I"⟩ ⟨"PlainOriginModel", "at", "(II)I"⟩ ∈ UW := uw_5_7 (List.mem_of_getElem? (i := 10) rfl) rfl
theorem mw_1382 : .code ⟨"PlainOriginModel", "at", "(II)I"⟩ prog_14_method_56_code 3 (some .int) ∈ UW := uw_5_7 (List.mem_of_getElem? (i := 11) rfl) rfl
theorem mw_1383 : .methodLink "PlainOriginLaw" 88 ⟨"PlainOriginModel", "mark", "(I)I"⟩ ∈ UW := uw_5_7 (List.mem_of_getElem? (i := 12) rfl) rfl
theorem mw_1384 : .instanceMethod ⟨"PlainOriginModel", "mark", "(I)I"⟩ ∈ UW := uw_5_7 (List.mem_of_getElem? (i := 13) rfl) rfl
theorem mw_1385 : .selects "PlainOriginModel" ⟨"PlainOriginModel", "mark", "(I)I"⟩ ⟨"PlainOriginModel", "mark", "(I)I"⟩ ∈ UW := uw_5_7 (List.mem_of_getElem? (i := 14) rfl) rfl
theorem mw_1386 : .code ⟨"PlainOriginModel", "mark", "(I)I"⟩ prog_14_method_57_code 2 (some .int) ∈ UW := uw_5_7 (List.mem_of_getElem? (i := 15) rfl) rfl
theorem mw_1387 : .methodLink "PlainOriginLaw" 92 ⟨"PlainOriginModel", "changes", "()I"⟩ ∈ UW := uw_5_8 (List.mem_of_getElem? (i := 0) rfl) rfl
theorem mw_1388 : .instanceMethod ⟨"PlainOriginModel", "changes", "()I"⟩ ∈ UW := uw_5_8 (List.mem_of_getElem? (i := 1) rfl) rfl
theorem mw_1389 : .selects "PlainOriginModel" ⟨"PlainOriginModel", "changes", "()I"⟩ ⟨"PlainOriginModel", "changes", "()I"⟩ ∈ UW := uw_5_8 (List.mem_of_getElem? (i := 2) rfl) rfl
theorem mw_1390 : .code ⟨"PlainOriginModel", "changes", "()I"⟩ prog_14_method_58_code 1 (some .int) ∈ UW := uw_5_8 (List.mem_of_getElem? (i := 3) rfl) rfl
theorem mw_1391 : .constantLong "PlainOriginLaw" 38 (4294967295) ∈ UW := uw_5_8 (List.mem_of_getElem? (i := 4) rfl) rfl
theorem mw_1393 : .fieldLink "java/lang/String" 15 "java/lang/String" "coder" "B" ∈ UW := uw_5_8 (List.mem_of_getElem? (i := 6) rfl) rfl
theorem mw_1394 : .fieldLink "java/lang/String" 9 "java/lang/String" "value" "[B" ∈ UW := uw_5_8 (List.mem_of_getElem? (i := 7) rfl) rfl
theorem mw_1395 : .fieldLink "PlainOrigin$Method" 44 "PlainOrigin$Method" "word" "Ljava/lang/String;" ∈ UW := uw_5_8 (List.mem_of_getElem? (i := 8) rfl) rfl
theorem fi_Bytes : ∀ w ∈ u_ws R_Bytes T_Bytes 2, w ∈ UW := by
  show ∀ w ∈ [u_lay R_Bytes T_Bytes 0, u_lay R_Bytes T_Bytes 1], w ∈ UW
  exact List.forall_mem_cons.mpr ⟨mw_122, List.forall_mem_cons.mpr ⟨mw_124, fun _ h => absurd h List.not_mem_nil⟩⟩
theorem fi_Fields : ∀ w ∈ u_ws R_Fields T_Fields 9, w ∈ UW := by
  show ∀ w ∈ [u_lay R_Fields T_Fields 0, u_lay R_Fields T_Fields 1, u_lay R_Fields T_Fields 2, u_lay R_Fields T_Fields 3, u_lay R_Fields T_Fields 4, u_lay R_Fields T_Fields 5, u_lay R_Fields T_Fields 6, u_lay R_Fields T_Fields 7, u_lay R_Fields T_Fields 8], w ∈ UW
  exact List.forall_mem_cons.mpr ⟨mw_188, List.forall_mem_cons.mpr ⟨mw_190, List.forall_mem_cons.mpr ⟨mw_192, List.forall_mem_cons.mpr ⟨mw_194, List.forall_mem_cons.mpr ⟨mw_196, List.forall_mem_cons.mpr ⟨mw_198, List.forall_mem_cons.mpr ⟨mw_200, List.forall_mem_cons.mpr ⟨mw_202, List.forall_mem_cons.mpr ⟨mw_204, fun _ h => absurd h List.not_mem_nil⟩⟩⟩⟩⟩⟩⟩⟩⟩
theorem fi_Request : ∀ w ∈ u_ws R_Request T_Request 9, w ∈ UW := by
  show ∀ w ∈ [u_lay R_Request T_Request 0, u_lay R_Request T_Request 1, u_lay R_Request T_Request 2, u_lay R_Request T_Request 3, u_lay R_Request T_Request 4, u_lay R_Request T_Request 5, u_lay R_Request T_Request 6, u_lay R_Request T_Request 7, u_lay R_Request T_Request 8], w ∈ UW
  exact List.forall_mem_cons.mpr ⟨mw_229, List.forall_mem_cons.mpr ⟨mw_231, List.forall_mem_cons.mpr ⟨mw_233, List.forall_mem_cons.mpr ⟨mw_235, List.forall_mem_cons.mpr ⟨mw_237, List.forall_mem_cons.mpr ⟨mw_239, List.forall_mem_cons.mpr ⟨mw_241, List.forall_mem_cons.mpr ⟨mw_243, List.forall_mem_cons.mpr ⟨mw_245, fun _ h => absurd h List.not_mem_nil⟩⟩⟩⟩⟩⟩⟩⟩⟩
theorem fi_Reader : ∀ w ∈ u_ws R_Reader T_Reader 6, w ∈ UW := by
  show ∀ w ∈ [u_lay R_Reader T_Reader 0, u_lay R_Reader T_Reader 1, u_lay R_Reader T_Reader 2, u_lay R_Reader T_Reader 3, u_lay R_Reader T_Reader 4, u_lay R_Reader T_Reader 5], w ∈ UW
  exact List.forall_mem_cons.mpr ⟨mw_256, List.forall_mem_cons.mpr ⟨mw_258, List.forall_mem_cons.mpr ⟨mw_260, List.forall_mem_cons.mpr ⟨mw_262, List.forall_mem_cons.mpr ⟨mw_264, List.forall_mem_cons.mpr ⟨mw_266, fun _ h => absurd h List.not_mem_nil⟩⟩⟩⟩⟩⟩
theorem fi_Resource : ∀ w ∈ u_ws R_Resource T_Resource 2, w ∈ UW := by
  show ∀ w ∈ [u_lay R_Resource T_Resource 0, u_lay R_Resource T_Resource 1], w ∈ UW
  exact List.forall_mem_cons.mpr ⟨mw_136, List.forall_mem_cons.mpr ⟨mw_138, fun _ h => absurd h List.not_mem_nil⟩⟩
theorem fi_Site : ∀ w ∈ u_ws R_Site T_Site 2, w ∈ UW := by
  show ∀ w ∈ [u_lay R_Site T_Site 0, u_lay R_Site T_Site 1], w ∈ UW
  exact List.forall_mem_cons.mpr ⟨mw_146, List.forall_mem_cons.mpr ⟨mw_148, fun _ h => absurd h List.not_mem_nil⟩⟩
theorem fi_Range : ∀ w ∈ u_ws R_Range T_Range 2, w ∈ UW := by
  show ∀ w ∈ [u_lay R_Range T_Range 0, u_lay R_Range T_Range 1], w ∈ UW
  exact List.forall_mem_cons.mpr ⟨mw_285, List.forall_mem_cons.mpr ⟨mw_287, fun _ h => absurd h List.not_mem_nil⟩⟩
theorem fi_Answer : ∀ w ∈ u_ws R_Answer T_Answer 12, w ∈ UW := by
  show ∀ w ∈ [u_lay R_Answer T_Answer 0, u_lay R_Answer T_Answer 1, u_lay R_Answer T_Answer 2, u_lay R_Answer T_Answer 3, u_lay R_Answer T_Answer 4, u_lay R_Answer T_Answer 5, u_lay R_Answer T_Answer 6, u_lay R_Answer T_Answer 7, u_lay R_Answer T_Answer 8, u_lay R_Answer T_Answer 9, u_lay R_Answer T_Answer 10, u_lay R_Answer T_Answer 11], w ∈ UW
  exact List.forall_mem_cons.mpr ⟨mw_315, List.forall_mem_cons.mpr ⟨mw_317, List.forall_mem_cons.mpr ⟨mw_319, List.forall_mem_cons.mpr ⟨mw_321, List.forall_mem_cons.mpr ⟨mw_323, List.forall_mem_cons.mpr ⟨mw_325, List.forall_mem_cons.mpr ⟨mw_327, List.forall_mem_cons.mpr ⟨mw_329, List.forall_mem_cons.mpr ⟨mw_331, List.forall_mem_cons.mpr ⟨mw_333, List.forall_mem_cons.mpr ⟨mw_335, List.forall_mem_cons.mpr ⟨mw_337, fun _ h => absurd h List.not_mem_nil⟩⟩⟩⟩⟩⟩⟩⟩⟩⟩⟩⟩
theorem fi_Outbox : ∀ w ∈ u_ws R_Outbox T_Outbox 2, w ∈ UW := by
  show ∀ w ∈ [u_lay R_Outbox T_Outbox 0, u_lay R_Outbox T_Outbox 1], w ∈ UW
  exact List.forall_mem_cons.mpr ⟨mw_352, List.forall_mem_cons.mpr ⟨mw_354, fun _ h => absurd h List.not_mem_nil⟩⟩
theorem fi_PlainOrigin : ∀ w ∈ u_ws R_PlainOrigin T_PlainOrigin 5, w ∈ UW := by
  show ∀ w ∈ [u_lay R_PlainOrigin T_PlainOrigin 0, u_lay R_PlainOrigin T_PlainOrigin 1, u_lay R_PlainOrigin T_PlainOrigin 2, u_lay R_PlainOrigin T_PlainOrigin 3, u_lay R_PlainOrigin T_PlainOrigin 4], w ∈ UW
  exact List.forall_mem_cons.mpr ⟨mw_362, List.forall_mem_cons.mpr ⟨mw_364, List.forall_mem_cons.mpr ⟨mw_366, List.forall_mem_cons.mpr ⟨mw_368, List.forall_mem_cons.mpr ⟨mw_370, fun _ h => absurd h List.not_mem_nil⟩⟩⟩⟩⟩
theorem fi_Model : ∀ w ∈ u_ws R_Model T_Model 33, w ∈ UW := by
  show ∀ w ∈ [u_lay R_Model T_Model 0, u_lay R_Model T_Model 1, u_lay R_Model T_Model 2, u_lay R_Model T_Model 3, u_lay R_Model T_Model 4, u_lay R_Model T_Model 5, u_lay R_Model T_Model 6, u_lay R_Model T_Model 7, u_lay R_Model T_Model 8, u_lay R_Model T_Model 9, u_lay R_Model T_Model 10, u_lay R_Model T_Model 11, u_lay R_Model T_Model 12, u_lay R_Model T_Model 13, u_lay R_Model T_Model 14, u_lay R_Model T_Model 15, u_lay R_Model T_Model 16, u_lay R_Model T_Model 17, u_lay R_Model T_Model 18, u_lay R_Model T_Model 19, u_lay R_Model T_Model 20, u_lay R_Model T_Model 21, u_lay R_Model T_Model 22, u_lay R_Model T_Model 23, u_lay R_Model T_Model 24, u_lay R_Model T_Model 25, u_lay R_Model T_Model 26, u_lay R_Model T_Model 27, u_lay R_Model T_Model 28, u_lay R_Model T_Model 29, u_lay R_Model T_Model 30, u_lay R_Model T_Model 31, u_lay R_Model T_Model 32], w ∈ UW
  exact List.forall_mem_cons.mpr ⟨mw_1101, List.forall_mem_cons.mpr ⟨mw_1103, List.forall_mem_cons.mpr ⟨mw_1105, List.forall_mem_cons.mpr ⟨mw_1107, List.forall_mem_cons.mpr ⟨mw_1109, List.forall_mem_cons.mpr ⟨mw_1111, List.forall_mem_cons.mpr ⟨mw_1113, List.forall_mem_cons.mpr ⟨mw_1115, List.forall_mem_cons.mpr ⟨mw_1117, List.forall_mem_cons.mpr ⟨mw_1119, List.forall_mem_cons.mpr ⟨mw_1121, List.forall_mem_cons.mpr ⟨mw_1123, List.forall_mem_cons.mpr ⟨mw_1125, List.forall_mem_cons.mpr ⟨mw_1127, List.forall_mem_cons.mpr ⟨mw_1129, List.forall_mem_cons.mpr ⟨mw_1131, List.forall_mem_cons.mpr ⟨mw_1133, List.forall_mem_cons.mpr ⟨mw_1135, List.forall_mem_cons.mpr ⟨mw_1137, List.forall_mem_cons.mpr ⟨mw_1139, List.forall_mem_cons.mpr ⟨mw_1141, List.forall_mem_cons.mpr ⟨mw_1143, List.forall_mem_cons.mpr ⟨mw_1145, List.forall_mem_cons.mpr ⟨mw_1147, List.forall_mem_cons.mpr ⟨mw_1149, List.forall_mem_cons.mpr ⟨mw_1151, List.forall_mem_cons.mpr ⟨mw_1153, List.forall_mem_cons.mpr ⟨mw_1155, List.forall_mem_cons.mpr ⟨mw_1157, List.forall_mem_cons.mpr ⟨mw_1159, List.forall_mem_cons.mpr ⟨mw_1161, List.forall_mem_cons.mpr ⟨mw_1163, List.forall_mem_cons.mpr ⟨mw_1165, fun _ h => absurd h List.not_mem_nil⟩⟩⟩⟩⟩⟩⟩⟩⟩⟩⟩⟩⟩⟩⟩⟩⟩⟩⟩⟩⟩⟩⟩⟩⟩⟩⟩⟩⟩⟩⟩⟩⟩
