-- ===== PART A: goes FIRST, ahead of the names: the tables' words, and 'selects' of the private methods out of them =====
/-- a private method of a class that the tables say can be made, by its rows of tables_1 -/
def lw_okq (q : MethodName × Nat) : Prop := (q.1.cls ≠ "java/lang/invoke/MethodHandle" ∧ q.1.cls ≠ "java/lang/invoke/VarHandle") ∧ Cond.instantiable q.1.cls q.2 ∈ tables_1 ∧ Cond.privateMethod q.1 ∈ tables_1 ∧ Cond.instanceMethod q.1 ∈ tables_1
theorem lw_p0 : lw_okq (⟨"java/lang/Throwable", "fillInStackTrace", "(I)Ljava/lang/Throwable;"⟩, 6) := ⟨⟨by decide +kernel, by decide +kernel⟩, List.mem_of_getElem? (i := 412) (by decide +kernel), List.mem_of_getElem? (i := 410) (by decide +kernel), List.mem_of_getElem? (i := 411) (by decide +kernel)⟩
theorem lw_p1 : lw_okq (⟨"PlainOrigin$Reader", "takeBodyByte", "(I)I"⟩, 6) := ⟨⟨by decide +kernel, by decide +kernel⟩, List.mem_of_getElem? (i := 93) (by decide +kernel), List.mem_of_getElem? (i := 446) (by decide +kernel), List.mem_of_getElem? (i := 447) (by decide +kernel)⟩
theorem lw_p2 : lw_okq (⟨"PlainOrigin$Reader", "takeChunkByte", "(I)I"⟩, 6) := ⟨⟨by decide +kernel, by decide +kernel⟩, List.mem_of_getElem? (i := 93) (by decide +kernel), List.mem_of_getElem? (i := 454) (by decide +kernel), List.mem_of_getElem? (i := 455) (by decide +kernel)⟩
theorem lw_p3 : lw_okq (⟨"PlainOrigin$Reader", "takeLineByte", "(I)I"⟩, 6) := ⟨⟨by decide +kernel, by decide +kernel⟩, List.mem_of_getElem? (i := 93) (by decide +kernel), List.mem_of_getElem? (i := 458) (by decide +kernel), List.mem_of_getElem? (i := 459) (by decide +kernel)⟩
theorem lw_p4 : lw_okq (⟨"PlainOrigin$Reader", "tooLong", "()I"⟩, 6) := ⟨⟨by decide +kernel, by decide +kernel⟩, List.mem_of_getElem? (i := 93) (by decide +kernel), List.mem_of_getElem? (i := 462) (by decide +kernel), List.mem_of_getElem? (i := 463) (by decide +kernel)⟩
theorem lw_p5 : lw_okq (⟨"PlainOrigin$Reader", "endRequestLine", "()I"⟩, 6) := ⟨⟨by decide +kernel, by decide +kernel⟩, List.mem_of_getElem? (i := 93) (by decide +kernel), List.mem_of_getElem? (i := 470) (by decide +kernel), List.mem_of_getElem? (i := 471) (by decide +kernel)⟩
theorem lw_p6 : lw_okq (⟨"PlainOrigin$Request", "takePath", "(LPlainOrigin$Bytes;II)V"⟩, 9) := ⟨⟨by decide +kernel, by decide +kernel⟩, List.mem_of_getElem? (i := 101) (by decide +kernel), List.mem_of_getElem? (i := 630) (by decide +kernel), List.mem_of_getElem? (i := 631) (by decide +kernel)⟩
theorem lw_p7 : lw_okq (⟨"PlainOrigin$Reader", "endChunkLine", "()I"⟩, 6) := ⟨⟨by decide +kernel, by decide +kernel⟩, List.mem_of_getElem? (i := 93) (by decide +kernel), List.mem_of_getElem? (i := 666) (by decide +kernel), List.mem_of_getElem? (i := 667) (by decide +kernel)⟩
theorem lw_p8 : lw_okq (⟨"PlainOrigin$Reader", "endTrailer", "()I"⟩, 6) := ⟨⟨by decide +kernel, by decide +kernel⟩, List.mem_of_getElem? (i := 93) (by decide +kernel), List.mem_of_getElem? (i := 673) (by decide +kernel), List.mem_of_getElem? (i := 674) (by decide +kernel)⟩
theorem lw_p9 : lw_okq (⟨"PlainOrigin$Fields", "cut", "(II)V"⟩, 9) := ⟨⟨by decide +kernel, by decide +kernel⟩, List.mem_of_getElem? (i := 107) (by decide +kernel), List.mem_of_getElem? (i := 719) (by decide +kernel), List.mem_of_getElem? (i := 720) (by decide +kernel)⟩
theorem lw_p10 : lw_okq (⟨"PlainOrigin$Fields", "keepElement", "(II)V"⟩, 9) := ⟨⟨by decide +kernel, by decide +kernel⟩, List.mem_of_getElem? (i := 107) (by decide +kernel), List.mem_of_getElem? (i := 724) (by decide +kernel), List.mem_of_getElem? (i := 725) (by decide +kernel)⟩
theorem lw_p11 : lw_okq (⟨"PlainOrigin$Answer", "list", "(LPlainOrigin$Site;)V"⟩, 12) := ⟨⟨by decide +kernel, by decide +kernel⟩, List.mem_of_getElem? (i := 211) (by decide +kernel), List.mem_of_getElem? (i := 784) (by decide +kernel), List.mem_of_getElem? (i := 785) (by decide +kernel)⟩
theorem lw_p12 : lw_okq (⟨"PlainOrigin$Answer", "show", "(LPlainOrigin$Method;LPlainOrigin$Bytes;)V"⟩, 12) := ⟨⟨by decide +kernel, by decide +kernel⟩, List.mem_of_getElem? (i := 211) (by decide +kernel), List.mem_of_getElem? (i := 794) (by decide +kernel), List.mem_of_getElem? (i := 795) (by decide +kernel)⟩
theorem lw_p13 : lw_okq (⟨"PlainOrigin$Answer", "read", "(LPlainOrigin$Request;LPlainOrigin$Resource;)V"⟩, 12) := ⟨⟨by decide +kernel, by decide +kernel⟩, List.mem_of_getElem? (i := 211) (by decide +kernel), List.mem_of_getElem? (i := 798) (by decide +kernel), List.mem_of_getElem? (i := 799) (by decide +kernel)⟩
theorem lw_p14 : lw_okq (⟨"PlainOrigin$Answer", "isKnown", "(LPlainOrigin$Fields;I)Z"⟩, 12) := ⟨⟨by decide +kernel, by decide +kernel⟩, List.mem_of_getElem? (i := 211) (by decide +kernel), List.mem_of_getElem? (i := 802) (by decide +kernel), List.mem_of_getElem? (i := 803) (by decide +kernel)⟩
theorem lw_p15 : lw_okq (⟨"PlainOrigin$Answer", "showRange", "(LPlainOrigin$Bytes;)V"⟩, 12) := ⟨⟨by decide +kernel, by decide +kernel⟩, List.mem_of_getElem? (i := 211) (by decide +kernel), List.mem_of_getElem? (i := 825) (by decide +kernel), List.mem_of_getElem? (i := 826) (by decide +kernel)⟩
def lw_privs_1 : List (MethodName × Nat) := [(⟨"java/lang/Throwable", "fillInStackTrace", "(I)Ljava/lang/Throwable;"⟩, 6), (⟨"PlainOrigin$Reader", "takeBodyByte", "(I)I"⟩, 6), (⟨"PlainOrigin$Reader", "takeChunkByte", "(I)I"⟩, 6), (⟨"PlainOrigin$Reader", "takeLineByte", "(I)I"⟩, 6), (⟨"PlainOrigin$Reader", "tooLong", "()I"⟩, 6), (⟨"PlainOrigin$Reader", "endRequestLine", "()I"⟩, 6), (⟨"PlainOrigin$Request", "takePath", "(LPlainOrigin$Bytes;II)V"⟩, 9), (⟨"PlainOrigin$Reader", "endChunkLine", "()I"⟩, 6), (⟨"PlainOrigin$Reader", "endTrailer", "()I"⟩, 6), (⟨"PlainOrigin$Fields", "cut", "(II)V"⟩, 9), (⟨"PlainOrigin$Fields", "keepElement", "(II)V"⟩, 9), (⟨"PlainOrigin$Answer", "list", "(LPlainOrigin$Site;)V"⟩, 12), (⟨"PlainOrigin$Answer", "show", "(LPlainOrigin$Method;LPlainOrigin$Bytes;)V"⟩, 12), (⟨"PlainOrigin$Answer", "read", "(LPlainOrigin$Request;LPlainOrigin$Resource;)V"⟩, 12), (⟨"PlainOrigin$Answer", "isKnown", "(LPlainOrigin$Fields;I)Z"⟩, 12), (⟨"PlainOrigin$Answer", "showRange", "(LPlainOrigin$Bytes;)V"⟩, 12)]
theorem lw_r1 : ∀ q ∈ lw_privs_1, lw_okq q := List.forall_mem_cons.mpr ⟨lw_p0, List.forall_mem_cons.mpr ⟨lw_p1, List.forall_mem_cons.mpr ⟨lw_p2, List.forall_mem_cons.mpr ⟨lw_p3, List.forall_mem_cons.mpr ⟨lw_p4, List.forall_mem_cons.mpr ⟨lw_p5, List.forall_mem_cons.mpr ⟨lw_p6, List.forall_mem_cons.mpr ⟨lw_p7, List.forall_mem_cons.mpr ⟨lw_p8, List.forall_mem_cons.mpr ⟨lw_p9, List.forall_mem_cons.mpr ⟨lw_p10, List.forall_mem_cons.mpr ⟨lw_p11, List.forall_mem_cons.mpr ⟨lw_p12, List.forall_mem_cons.mpr ⟨lw_p13, List.forall_mem_cons.mpr ⟨lw_p14, List.forall_mem_cons.mpr ⟨lw_p15, fun _ h => absurd h List.not_mem_nil⟩⟩⟩⟩⟩⟩⟩⟩⟩⟩⟩⟩⟩⟩⟩⟩
theorem lw_p16 : lw_okq (⟨"PlainOrigin", "send", "(I)V"⟩, 5) := ⟨⟨by decide +kernel, by decide +kernel⟩, List.mem_of_getElem? (i := 28) (by decide +kernel), List.mem_of_getElem? (i := 854) (by decide +kernel), List.mem_of_getElem? (i := 855) (by decide +kernel)⟩
theorem lw_p17 : lw_okq (⟨"PlainOrigin$Outbox", "writeText", "(Ljava/lang/String;)V"⟩, 2) := ⟨⟨by decide +kernel, by decide +kernel⟩, List.mem_of_getElem? (i := 282) (by decide +kernel), List.mem_of_getElem? (i := 864) (by decide +kernel), List.mem_of_getElem? (i := 865) (by decide +kernel)⟩
theorem lw_p18 : lw_okq (⟨"PlainOrigin$Outbox", "writeByte", "(I)V"⟩, 2) := ⟨⟨by decide +kernel, by decide +kernel⟩, List.mem_of_getElem? (i := 282) (by decide +kernel), List.mem_of_getElem? (i := 870) (by decide +kernel), List.mem_of_getElem? (i := 871) (by decide +kernel)⟩
theorem lw_p19 : lw_okq (⟨"PlainOrigin$Outbox", "writeNumber", "(I)V"⟩, 2) := ⟨⟨by decide +kernel, by decide +kernel⟩, List.mem_of_getElem? (i := 282) (by decide +kernel), List.mem_of_getElem? (i := 875) (by decide +kernel), List.mem_of_getElem? (i := 876) (by decide +kernel)⟩
theorem lw_p20 : lw_okq (⟨"PlainOrigin$Outbox", "writeFields", "(LPlainOrigin$Answer;)V"⟩, 2) := ⟨⟨by decide +kernel, by decide +kernel⟩, List.mem_of_getElem? (i := 282) (by decide +kernel), List.mem_of_getElem? (i := 880) (by decide +kernel), List.mem_of_getElem? (i := 881) (by decide +kernel)⟩
theorem lw_p21 : lw_okq (⟨"PlainOrigin$Outbox", "writeRange", "(LPlainOrigin$Answer;)V"⟩, 2) := ⟨⟨by decide +kernel, by decide +kernel⟩, List.mem_of_getElem? (i := 282) (by decide +kernel), List.mem_of_getElem? (i := 888) (by decide +kernel), List.mem_of_getElem? (i := 889) (by decide +kernel)⟩
theorem lw_p22 : lw_okq (⟨"PlainOrigin", "resourceOf", "(I)LPlainOrigin$Resource;"⟩, 5) := ⟨⟨by decide +kernel, by decide +kernel⟩, List.mem_of_getElem? (i := 28) (by decide +kernel), List.mem_of_getElem? (i := 930) (by decide +kernel), List.mem_of_getElem? (i := 931) (by decide +kernel)⟩
theorem lw_p23 : lw_okq (⟨"PlainOriginModel", "take", "(I)V"⟩, 33) := ⟨⟨by decide +kernel, by decide +kernel⟩, List.mem_of_getElem? (i := 967) (by decide +kernel), List.mem_of_getElem? (i := 1124) (by decide +kernel), List.mem_of_getElem? (i := 1125) (by decide +kernel)⟩
theorem lw_p24 : lw_okq (⟨"PlainOriginModel", "answer", "()V"⟩, 33) := ⟨⟨by decide +kernel, by decide +kernel⟩, List.mem_of_getElem? (i := 967) (by decide +kernel), List.mem_of_getElem? (i := 1128) (by decide +kernel), List.mem_of_getElem? (i := 1129) (by decide +kernel)⟩
theorem lw_p25 : lw_okq (⟨"PlainOriginModel", "resource", "()I"⟩, 33) := ⟨⟨by decide +kernel, by decide +kernel⟩, List.mem_of_getElem? (i := 967) (by decide +kernel), List.mem_of_getElem? (i := 1132) (by decide +kernel), List.mem_of_getElem? (i := 1133) (by decide +kernel)⟩
theorem lw_p26 : lw_okq (⟨"PlainOriginModel", "respond", "(IIIIII)V"⟩, 33) := ⟨⟨by decide +kernel, by decide +kernel⟩, List.mem_of_getElem? (i := 967) (by decide +kernel), List.mem_of_getElem? (i := 1145) (by decide +kernel), List.mem_of_getElem? (i := 1146) (by decide +kernel)⟩
theorem lw_p27 : lw_okq (⟨"PlainOriginModel", "sayStatus", "(I)V"⟩, 33) := ⟨⟨by decide +kernel, by decide +kernel⟩, List.mem_of_getElem? (i := 967) (by decide +kernel), List.mem_of_getElem? (i := 1149) (by decide +kernel), List.mem_of_getElem? (i := 1150) (by decide +kernel)⟩
theorem lw_p28 : lw_okq (⟨"PlainOriginModel", "sayWord", "(I)V"⟩, 33) := ⟨⟨by decide +kernel, by decide +kernel⟩, List.mem_of_getElem? (i := 967) (by decide +kernel), List.mem_of_getElem? (i := 1153) (by decide +kernel), List.mem_of_getElem? (i := 1154) (by decide +kernel)⟩
theorem lw_p29 : lw_okq (⟨"PlainOriginModel", "letter", "(I)I"⟩, 33) := ⟨⟨by decide +kernel, by decide +kernel⟩, List.mem_of_getElem? (i := 967) (by decide +kernel), List.mem_of_getElem? (i := 1157) (by decide +kernel), List.mem_of_getElem? (i := 1158) (by decide +kernel)⟩
theorem lw_p30 : lw_okq (⟨"PlainOriginModel", "say", "(I)V"⟩, 33) := ⟨⟨by decide +kernel, by decide +kernel⟩, List.mem_of_getElem? (i := 967) (by decide +kernel), List.mem_of_getElem? (i := 1161) (by decide +kernel), List.mem_of_getElem? (i := 1162) (by decide +kernel)⟩
theorem lw_p31 : lw_okq (⟨"PlainOriginModel", "sayNumber", "(I)V"⟩, 33) := ⟨⟨by decide +kernel, by decide +kernel⟩, List.mem_of_getElem? (i := 967) (by decide +kernel), List.mem_of_getElem? (i := 1165) (by decide +kernel), List.mem_of_getElem? (i := 1166) (by decide +kernel)⟩
def lw_privs_2 : List (MethodName × Nat) := [(⟨"PlainOrigin", "send", "(I)V"⟩, 5), (⟨"PlainOrigin$Outbox", "writeText", "(Ljava/lang/String;)V"⟩, 2), (⟨"PlainOrigin$Outbox", "writeByte", "(I)V"⟩, 2), (⟨"PlainOrigin$Outbox", "writeNumber", "(I)V"⟩, 2), (⟨"PlainOrigin$Outbox", "writeFields", "(LPlainOrigin$Answer;)V"⟩, 2), (⟨"PlainOrigin$Outbox", "writeRange", "(LPlainOrigin$Answer;)V"⟩, 2), (⟨"PlainOrigin", "resourceOf", "(I)LPlainOrigin$Resource;"⟩, 5), (⟨"PlainOriginModel", "take", "(I)V"⟩, 33), (⟨"PlainOriginModel", "answer", "()V"⟩, 33), (⟨"PlainOriginModel", "resource", "()I"⟩, 33), (⟨"PlainOriginModel", "respond", "(IIIIII)V"⟩, 33), (⟨"PlainOriginModel", "sayStatus", "(I)V"⟩, 33), (⟨"PlainOriginModel", "sayWord", "(I)V"⟩, 33), (⟨"PlainOriginModel", "letter", "(I)I"⟩, 33), (⟨"PlainOriginModel", "say", "(I)V"⟩, 33), (⟨"PlainOriginModel", "sayNumber", "(I)V"⟩, 33)]
theorem lw_r2 : ∀ q ∈ lw_privs_2, lw_okq q := List.forall_mem_cons.mpr ⟨lw_p16, List.forall_mem_cons.mpr ⟨lw_p17, List.forall_mem_cons.mpr ⟨lw_p18, List.forall_mem_cons.mpr ⟨lw_p19, List.forall_mem_cons.mpr ⟨lw_p20, List.forall_mem_cons.mpr ⟨lw_p21, List.forall_mem_cons.mpr ⟨lw_p22, List.forall_mem_cons.mpr ⟨lw_p23, List.forall_mem_cons.mpr ⟨lw_p24, List.forall_mem_cons.mpr ⟨lw_p25, List.forall_mem_cons.mpr ⟨lw_p26, List.forall_mem_cons.mpr ⟨lw_p27, List.forall_mem_cons.mpr ⟨lw_p28, List.forall_mem_cons.mpr ⟨lw_p29, List.forall_mem_cons.mpr ⟨lw_p30, List.forall_mem_cons.mpr ⟨lw_p31, fun _ h => absurd h List.not_mem_nil⟩⟩⟩⟩⟩⟩⟩⟩⟩⟩⟩⟩⟩⟩⟩⟩
theorem lw_p32 : lw_okq (⟨"PlainOriginModel", "endSaying", "()V"⟩, 33) := ⟨⟨by decide +kernel, by decide +kernel⟩, List.mem_of_getElem? (i := 967) (by decide +kernel), List.mem_of_getElem? (i := 1169) (by decide +kernel), List.mem_of_getElem? (i := 1170) (by decide +kernel)⟩
theorem lw_p33 : lw_okq (⟨"PlainOriginModel", "tellSite", "()V"⟩, 33) := ⟨⟨by decide +kernel, by decide +kernel⟩, List.mem_of_getElem? (i := 967) (by decide +kernel), List.mem_of_getElem? (i := 1173) (by decide +kernel), List.mem_of_getElem? (i := 1174) (by decide +kernel)⟩
theorem lw_p34 : lw_okq (⟨"PlainOriginModel", "tell", "(I)V"⟩, 33) := ⟨⟨by decide +kernel, by decide +kernel⟩, List.mem_of_getElem? (i := 967) (by decide +kernel), List.mem_of_getElem? (i := 1177) (by decide +kernel), List.mem_of_getElem? (i := 1178) (by decide +kernel)⟩
theorem lw_p35 : lw_okq (⟨"PlainOriginModel", "isKnown", "(I)Z"⟩, 33) := ⟨⟨by decide +kernel, by decide +kernel⟩, List.mem_of_getElem? (i := 967) (by decide +kernel), List.mem_of_getElem? (i := 1181) (by decide +kernel), List.mem_of_getElem? (i := 1182) (by decide +kernel)⟩
theorem lw_p36 : lw_okq (⟨"PlainOriginModel", "list", "(I)V"⟩, 33) := ⟨⟨by decide +kernel, by decide +kernel⟩, List.mem_of_getElem? (i := 967) (by decide +kernel), List.mem_of_getElem? (i := 1185) (by decide +kernel), List.mem_of_getElem? (i := 1186) (by decide +kernel)⟩
theorem lw_p37 : lw_okq (⟨"PlainOriginModel", "isNamed", "(II)Z"⟩, 33) := ⟨⟨by decide +kernel, by decide +kernel⟩, List.mem_of_getElem? (i := 967) (by decide +kernel), List.mem_of_getElem? (i := 1189) (by decide +kernel), List.mem_of_getElem? (i := 1190) (by decide +kernel)⟩
theorem lw_p38 : lw_okq (⟨"PlainOriginModel", "isWord", "(III)Z"⟩, 33) := ⟨⟨by decide +kernel, by decide +kernel⟩, List.mem_of_getElem? (i := 967) (by decide +kernel), List.mem_of_getElem? (i := 1193) (by decide +kernel), List.mem_of_getElem? (i := 1194) (by decide +kernel)⟩
theorem lw_p39 : lw_okq (⟨"PlainOriginModel", "notice", "(II)V"⟩, 33) := ⟨⟨by decide +kernel, by decide +kernel⟩, List.mem_of_getElem? (i := 967) (by decide +kernel), List.mem_of_getElem? (i := 1197) (by decide +kernel), List.mem_of_getElem? (i := 1198) (by decide +kernel)⟩
theorem lw_p40 : lw_okq (⟨"PlainOriginModel", "isBlank", "(I)Z"⟩, 33) := ⟨⟨by decide +kernel, by decide +kernel⟩, List.mem_of_getElem? (i := 967) (by decide +kernel), List.mem_of_getElem? (i := 1201) (by decide +kernel), List.mem_of_getElem? (i := 1202) (by decide +kernel)⟩
theorem lw_p41 : lw_okq (⟨"PlainOriginModel", "numberAt", "(II)I"⟩, 33) := ⟨⟨by decide +kernel, by decide +kernel⟩, List.mem_of_getElem? (i := 967) (by decide +kernel), List.mem_of_getElem? (i := 1205) (by decide +kernel), List.mem_of_getElem? (i := 1206) (by decide +kernel)⟩
theorem lw_p42 : lw_okq (⟨"PlainOriginModel", "count", "(I)I"⟩, 33) := ⟨⟨by decide +kernel, by decide +kernel⟩, List.mem_of_getElem? (i := 967) (by decide +kernel), List.mem_of_getElem? (i := 1209) (by decide +kernel), List.mem_of_getElem? (i := 1210) (by decide +kernel)⟩
theorem lw_p43 : lw_okq (⟨"PlainOriginModel", "change", "(I)V"⟩, 33) := ⟨⟨by decide +kernel, by decide +kernel⟩, List.mem_of_getElem? (i := 967) (by decide +kernel), List.mem_of_getElem? (i := 1213) (by decide +kernel), List.mem_of_getElem? (i := 1214) (by decide +kernel)⟩
theorem lw_p44 : lw_okq (⟨"PlainOriginModel", "hasStar", "()Z"⟩, 33) := ⟨⟨by decide +kernel, by decide +kernel⟩, List.mem_of_getElem? (i := 967) (by decide +kernel), List.mem_of_getElem? (i := 1217) (by decide +kernel), List.mem_of_getElem? (i := 1218) (by decide +kernel)⟩
theorem lw_p45 : lw_okq (⟨"PlainOriginModel", "blame", "(ZI)V"⟩, 33) := ⟨⟨by decide +kernel, by decide +kernel⟩, List.mem_of_getElem? (i := 967) (by decide +kernel), List.mem_of_getElem? (i := 1221) (by decide +kernel), List.mem_of_getElem? (i := 1222) (by decide +kernel)⟩
theorem lw_p46 : lw_okq (⟨"PlainOriginModel", "takeLine", "()V"⟩, 33) := ⟨⟨by decide +kernel, by decide +kernel⟩, List.mem_of_getElem? (i := 967) (by decide +kernel), List.mem_of_getElem? (i := 1225) (by decide +kernel), List.mem_of_getElem? (i := 1226) (by decide +kernel)⟩
theorem lw_p47 : lw_okq (⟨"PlainOriginModel", "takeRequestLine", "()V"⟩, 33) := ⟨⟨by decide +kernel, by decide +kernel⟩, List.mem_of_getElem? (i := 967) (by decide +kernel), List.mem_of_getElem? (i := 1229) (by decide +kernel), List.mem_of_getElem? (i := 1230) (by decide +kernel)⟩
def lw_privs_3 : List (MethodName × Nat) := [(⟨"PlainOriginModel", "endSaying", "()V"⟩, 33), (⟨"PlainOriginModel", "tellSite", "()V"⟩, 33), (⟨"PlainOriginModel", "tell", "(I)V"⟩, 33), (⟨"PlainOriginModel", "isKnown", "(I)Z"⟩, 33), (⟨"PlainOriginModel", "list", "(I)V"⟩, 33), (⟨"PlainOriginModel", "isNamed", "(II)Z"⟩, 33), (⟨"PlainOriginModel", "isWord", "(III)Z"⟩, 33), (⟨"PlainOriginModel", "notice", "(II)V"⟩, 33), (⟨"PlainOriginModel", "isBlank", "(I)Z"⟩, 33), (⟨"PlainOriginModel", "numberAt", "(II)I"⟩, 33), (⟨"PlainOriginModel", "count", "(I)I"⟩, 33), (⟨"PlainOriginModel", "change", "(I)V"⟩, 33), (⟨"PlainOriginModel", "hasStar", "()Z"⟩, 33), (⟨"PlainOriginModel", "blame", "(ZI)V"⟩, 33), (⟨"PlainOriginModel", "takeLine", "()V"⟩, 33), (⟨"PlainOriginModel", "takeRequestLine", "()V"⟩, 33)]
theorem lw_r3 : ∀ q ∈ lw_privs_3, lw_okq q := List.forall_mem_cons.mpr ⟨lw_p32, List.forall_mem_cons.mpr ⟨lw_p33, List.forall_mem_cons.mpr ⟨lw_p34, List.forall_mem_cons.mpr ⟨lw_p35, List.forall_mem_cons.mpr ⟨lw_p36, List.forall_mem_cons.mpr ⟨lw_p37, List.forall_mem_cons.mpr ⟨lw_p38, List.forall_mem_cons.mpr ⟨lw_p39, List.forall_mem_cons.mpr ⟨lw_p40, List.forall_mem_cons.mpr ⟨lw_p41, List.forall_mem_cons.mpr ⟨lw_p42, List.forall_mem_cons.mpr ⟨lw_p43, List.forall_mem_cons.mpr ⟨lw_p44, List.forall_mem_cons.mpr ⟨lw_p45, List.forall_mem_cons.mpr ⟨lw_p46, List.forall_mem_cons.mpr ⟨lw_p47, fun _ h => absurd h List.not_mem_nil⟩⟩⟩⟩⟩⟩⟩⟩⟩⟩⟩⟩⟩⟩⟩⟩
theorem lw_p48 : lw_okq (⟨"PlainOriginModel", "find", "(II)I"⟩, 33) := ⟨⟨by decide +kernel, by decide +kernel⟩, List.mem_of_getElem? (i := 967) (by decide +kernel), List.mem_of_getElem? (i := 1233) (by decide +kernel), List.mem_of_getElem? (i := 1234) (by decide +kernel)⟩
theorem lw_p49 : lw_okq (⟨"PlainOriginModel", "isToken", "(I)Z"⟩, 33) := ⟨⟨by decide +kernel, by decide +kernel⟩, List.mem_of_getElem? (i := 967) (by decide +kernel), List.mem_of_getElem? (i := 1237) (by decide +kernel), List.mem_of_getElem? (i := 1238) (by decide +kernel)⟩
theorem lw_p50 : lw_okq (⟨"PlainOriginModel", "isTarget", "(II)Z"⟩, 33) := ⟨⟨by decide +kernel, by decide +kernel⟩, List.mem_of_getElem? (i := 967) (by decide +kernel), List.mem_of_getElem? (i := 1247) (by decide +kernel), List.mem_of_getElem? (i := 1248) (by decide +kernel)⟩
theorem lw_p51 : lw_okq (⟨"PlainOriginModel", "isExactly", "(III)Z"⟩, 33) := ⟨⟨by decide +kernel, by decide +kernel⟩, List.mem_of_getElem? (i := 967) (by decide +kernel), List.mem_of_getElem? (i := 1254) (by decide +kernel), List.mem_of_getElem? (i := 1255) (by decide +kernel)⟩
theorem lw_p52 : lw_okq (⟨"PlainOriginModel", "takeChunkLine", "()V"⟩, 33) := ⟨⟨by decide +kernel, by decide +kernel⟩, List.mem_of_getElem? (i := 967) (by decide +kernel), List.mem_of_getElem? (i := 1258) (by decide +kernel), List.mem_of_getElem? (i := 1259) (by decide +kernel)⟩
theorem lw_p53 : lw_okq (⟨"PlainOriginModel", "endHead", "()V"⟩, 33) := ⟨⟨by decide +kernel, by decide +kernel⟩, List.mem_of_getElem? (i := 967) (by decide +kernel), List.mem_of_getElem? (i := 1265) (by decide +kernel), List.mem_of_getElem? (i := 1266) (by decide +kernel)⟩
theorem lw_p54 : lw_okq (⟨"PlainOriginModel", "checkHost", "()V"⟩, 33) := ⟨⟨by decide +kernel, by decide +kernel⟩, List.mem_of_getElem? (i := 967) (by decide +kernel), List.mem_of_getElem? (i := 1269) (by decide +kernel), List.mem_of_getElem? (i := 1270) (by decide +kernel)⟩
theorem lw_p55 : lw_okq (⟨"PlainOriginModel", "checkCoding", "()V"⟩, 33) := ⟨⟨by decide +kernel, by decide +kernel⟩, List.mem_of_getElem? (i := 967) (by decide +kernel), List.mem_of_getElem? (i := 1273) (by decide +kernel), List.mem_of_getElem? (i := 1274) (by decide +kernel)⟩
theorem lw_p56 : lw_okq (⟨"PlainOriginModel", "checkLength", "()V"⟩, 33) := ⟨⟨by decide +kernel, by decide +kernel⟩, List.mem_of_getElem? (i := 967) (by decide +kernel), List.mem_of_getElem? (i := 1277) (by decide +kernel), List.mem_of_getElem? (i := 1278) (by decide +kernel)⟩
theorem lw_p57 : lw_okq (⟨"PlainOriginModel", "has", "(II)Z"⟩, 33) := ⟨⟨by decide +kernel, by decide +kernel⟩, List.mem_of_getElem? (i := 967) (by decide +kernel), List.mem_of_getElem? (i := 1281) (by decide +kernel), List.mem_of_getElem? (i := 1282) (by decide +kernel)⟩
theorem lw_p58 : lw_okq (⟨"PlainOriginModel", "takeField", "()V"⟩, 33) := ⟨⟨by decide +kernel, by decide +kernel⟩, List.mem_of_getElem? (i := 967) (by decide +kernel), List.mem_of_getElem? (i := 1285) (by decide +kernel), List.mem_of_getElem? (i := 1286) (by decide +kernel)⟩
def lw_privs_4 : List (MethodName × Nat) := [(⟨"PlainOriginModel", "find", "(II)I"⟩, 33), (⟨"PlainOriginModel", "isToken", "(I)Z"⟩, 33), (⟨"PlainOriginModel", "isTarget", "(II)Z"⟩, 33), (⟨"PlainOriginModel", "isExactly", "(III)Z"⟩, 33), (⟨"PlainOriginModel", "takeChunkLine", "()V"⟩, 33), (⟨"PlainOriginModel", "endHead", "()V"⟩, 33), (⟨"PlainOriginModel", "checkHost", "()V"⟩, 33), (⟨"PlainOriginModel", "checkCoding", "()V"⟩, 33), (⟨"PlainOriginModel", "checkLength", "()V"⟩, 33), (⟨"PlainOriginModel", "has", "(II)Z"⟩, 33), (⟨"PlainOriginModel", "takeField", "()V"⟩, 33)]
theorem lw_r4 : ∀ q ∈ lw_privs_4, lw_okq q := List.forall_mem_cons.mpr ⟨lw_p48, List.forall_mem_cons.mpr ⟨lw_p49, List.forall_mem_cons.mpr ⟨lw_p50, List.forall_mem_cons.mpr ⟨lw_p51, List.forall_mem_cons.mpr ⟨lw_p52, List.forall_mem_cons.mpr ⟨lw_p53, List.forall_mem_cons.mpr ⟨lw_p54, List.forall_mem_cons.mpr ⟨lw_p55, List.forall_mem_cons.mpr ⟨lw_p56, List.forall_mem_cons.mpr ⟨lw_p57, List.forall_mem_cons.mpr ⟨lw_p58, fun _ h => absurd h List.not_mem_nil⟩⟩⟩⟩⟩⟩⟩⟩⟩⟩⟩
def lw_privs : List (MethodName × Nat) := lw_privs_1 ++ (lw_privs_2 ++ (lw_privs_3 ++ (lw_privs_4)))
def lw_tbl : List Cond := k2_sels lw_privs ++ tables_1
theorem lw_privs_ok : ∀ q ∈ lw_privs, lw_okq q := by
  show ∀ q ∈ lw_privs_1 ++ (lw_privs_2 ++ (lw_privs_3 ++ (lw_privs_4))), lw_okq q
  exact List.forall_mem_append.mpr ⟨lw_r1, List.forall_mem_append.mpr ⟨lw_r2, List.forall_mem_append.mpr ⟨lw_r3, lw_r4⟩⟩⟩
def UW : List Cond := lw_tbl.filter goodWord
theorem uw_mem {w : Cond} {i : Nat} (h : lw_tbl[i]? = some w) (hg : goodWord w = true) : w ∈ UW := List.mem_filter.mpr ⟨List.mem_of_getElem? h, hg⟩
theorem uw_good {w : Cond} (h : w ∈ UW) : w ∈ UW ∧ ((w.onTables && w.keeps) = true ∨ ∃ ty, w = .arrayClass ty) := ⟨h, good_of_word (List.mem_filter.mp h).2⟩
theorem uw_all {ws : List Cond} (h : ∀ w ∈ ws, w ∈ UW) : GoodIn UW ws := fun w hw => uw_good (h w hw)
theorem uw_V {own C : String} {index maxL : Nat} {y : MethodName} {bytes : ByteArray} {ret : Option FieldType} (h1 : .methodLink own index y ∈ UW) (h2 : .instanceMethod y ∈ UW) (h3 : .selects C y y ∈ UW) (h4 : .initialized C ∈ UW) (h5 : .code y bytes maxL ret ∈ UW) : GoodIn UW (wsV own index C y (Cond.code y bytes maxL ret :: UW)) := by
  apply uw_all
  intro w hw
  simp only [wsV, List.mem_append, List.mem_cons, List.not_mem_nil, or_false] at hw
  rcases hw with (rfl | rfl | rfl | rfl) | (rfl | hw) <;> assumption
theorem uw_S {own : String} {index maxL : Nat} {y : MethodName} {bytes : ByteArray} {ret : Option FieldType} (h1 : .methodLink own index y ∈ UW) (h2 : .static y ∈ UW) (h3 : .initialized y.cls ∈ UW) (h5 : .code y bytes maxL ret ∈ UW) : GoodIn UW (va_wsS own index y (Cond.code y bytes maxL ret :: UW)) := by
  apply uw_all
  intro w hw
  simp only [va_wsS, List.mem_append, List.mem_cons, List.not_mem_nil, or_false] at hw
  rcases hw with (rfl | rfl | rfl) | (rfl | hw) <;> assumption
def R_Bytes : String := "PlainOrigin$Bytes"
def T_Bytes : u_T := fun k => match k with
  | 0 => ("PlainOrigin$Bytes", "cells", "[I", true)
  | _ => ("PlainOrigin$Bytes", "count", "I", false)
def ty_Bytes : Nat → FieldType := fun k => match k with
  | 0 => .array .int
  | _ => .int
theorem nm_Bytes : ∀ a, a < 2 → ∀ b, b < 2 → a ≠ b → (T_Bytes a).2.1 ≠ (T_Bytes b).2.1 := by decide +kernel
theorem tyok_Bytes : ∀ k, k < 2 → parseFieldDescriptor (T_Bytes k).2.2.1 = some (ty_Bytes k) := by decide +kernel
def R_Fields : String := "PlainOrigin$Fields"
def T_Fields : u_T := fun k => match k with
  | 0 => ("PlainOrigin$Fields", "text", "LPlainOrigin$Bytes;", true)
  | 1 => ("PlainOrigin$Fields", "nameFrom", "[I", true)
  | 2 => ("PlainOrigin$Fields", "nameTo", "[I", true)
  | 3 => ("PlainOrigin$Fields", "valueFrom", "[I", true)
  | 4 => ("PlainOrigin$Fields", "valueTo", "[I", true)
  | 5 => ("PlainOrigin$Fields", "fieldCount", "I", false)
  | 6 => ("PlainOrigin$Fields", "elementFrom", "[I", true)
  | 7 => ("PlainOrigin$Fields", "elementTo", "[I", true)
  | _ => ("PlainOrigin$Fields", "elementCount", "I", false)
def ty_Fields : Nat → FieldType := fun k => match k with
  | 0 => .object "PlainOrigin$Bytes"
  | 1 => .array .int
  | 2 => .array .int
  | 3 => .array .int
  | 4 => .array .int
  | 5 => .int
  | 6 => .array .int
  | 7 => .array .int
  | _ => .int
theorem nm_Fields : ∀ a, a < 9 → ∀ b, b < 9 → a ≠ b → (T_Fields a).2.1 ≠ (T_Fields b).2.1 := by decide +kernel
theorem tyok_Fields : ∀ k, k < 9 → parseFieldDescriptor (T_Fields k).2.2.1 = some (ty_Fields k) := by decide +kernel
def R_Request : String := "PlainOrigin$Request"
def T_Request : u_T := fun k => match k with
  | 0 => ("PlainOrigin$Request", "fields", "LPlainOrigin$Fields;", true)
  | 1 => ("PlainOrigin$Request", "path", "LPlainOrigin$Bytes;", true)
  | 2 => ("PlainOrigin$Request", "body", "LPlainOrigin$Bytes;", true)
  | 3 => ("PlainOrigin$Request", "method", "LPlainOrigin$Method;", false)
  | 4 => ("PlainOrigin$Request", "lastDigit", "I", false)
  | 5 => ("PlainOrigin$Request", "isChunked", "Z", false)
  | 6 => ("PlainOrigin$Request", "bodyLength", "I", false)
  | 7 => ("PlainOrigin$Request", "awaitsContinue", "Z", false)
  | _ => ("PlainOrigin$Request", "isLast", "Z", false)
def ty_Request : Nat → FieldType := fun k => match k with
  | 0 => .object "PlainOrigin$Fields"
  | 1 => .object "PlainOrigin$Bytes"
  | 2 => .object "PlainOrigin$Bytes"
  | 3 => .object "PlainOrigin$Method"
  | 4 => .int
  | 5 => .boolean
  | 6 => .int
  | 7 => .boolean
  | _ => .boolean
theorem nm_Request : ∀ a, a < 9 → ∀ b, b < 9 → a ≠ b → (T_Request a).2.1 ≠ (T_Request b).2.1 := by decide +kernel
theorem tyok_Request : ∀ k, k < 9 → parseFieldDescriptor (T_Request k).2.2.1 = some (ty_Request k) := by decide +kernel
def R_Reader : String := "PlainOrigin$Reader"
def T_Reader : u_T := fun k => match k with
  | 0 => ("PlainOrigin$Reader", "line", "LPlainOrigin$Bytes;", true)
  | 1 => ("PlainOrigin$Reader", "request", "LPlainOrigin$Request;", true)
  | 2 => ("PlainOrigin$Reader", "stage", "I", false)
  | 3 => ("PlainOrigin$Reader", "afterCr", "Z", false)
  | 4 => ("PlainOrigin$Reader", "chunkLeft", "I", false)
  | _ => ("PlainOrigin$Reader", "trailers", "I", false)
def ty_Reader : Nat → FieldType := fun k => match k with
  | 0 => .object "PlainOrigin$Bytes"
  | 1 => .object "PlainOrigin$Request"
  | 2 => .int
  | 3 => .boolean
  | 4 => .int
  | _ => .int
theorem nm_Reader : ∀ a, a < 6 → ∀ b, b < 6 → a ≠ b → (T_Reader a).2.1 ≠ (T_Reader b).2.1 := by decide +kernel
theorem tyok_Reader : ∀ k, k < 6 → parseFieldDescriptor (T_Reader k).2.2.1 = some (ty_Reader k) := by decide +kernel
def R_Resource : String := "PlainOrigin$Resource"
def T_Resource : u_T := fun k => match k with
  | 0 => ("PlainOrigin$Resource", "content", "LPlainOrigin$Bytes;", true)
  | _ => ("PlainOrigin$Resource", "tag", "I", false)
def ty_Resource : Nat → FieldType := fun k => match k with
  | 0 => .object "PlainOrigin$Bytes"
  | _ => .int
theorem nm_Resource : ∀ a, a < 2 → ∀ b, b < 2 → a ≠ b → (T_Resource a).2.1 ≠ (T_Resource b).2.1 := by decide +kernel
theorem tyok_Resource : ∀ k, k < 2 → parseFieldDescriptor (T_Resource k).2.2.1 = some (ty_Resource k) := by decide +kernel
def R_Site : String := "PlainOrigin$Site"
def T_Site : u_T := fun k => match k with
  | 0 => ("PlainOrigin$Site", "resources", "[LPlainOrigin$Resource;", true)
  | _ => ("PlainOrigin$Site", "changeCount", "I", false)
def ty_Site : Nat → FieldType := fun k => match k with
  | 0 => .array (.object "PlainOrigin$Resource")
  | _ => .int
theorem nm_Site : ∀ a, a < 2 → ∀ b, b < 2 → a ≠ b → (T_Site a).2.1 ≠ (T_Site b).2.1 := by decide +kernel
theorem tyok_Site : ∀ k, k < 2 → parseFieldDescriptor (T_Site k).2.2.1 = some (ty_Site k) := by decide +kernel
def R_Range : String := "PlainOrigin$Range"
def T_Range : u_T := fun k => match k with
  | 0 => ("PlainOrigin$Range", "first", "I", false)
  | _ => ("PlainOrigin$Range", "last", "I", false)
def ty_Range : Nat → FieldType := fun k => match k with
  | 0 => .int
  | _ => .int
theorem nm_Range : ∀ a, a < 2 → ∀ b, b < 2 → a ≠ b → (T_Range a).2.1 ≠ (T_Range b).2.1 := by decide +kernel
theorem tyok_Range : ∀ k, k < 2 → parseFieldDescriptor (T_Range k).2.2.1 = some (ty_Range k) := by decide +kernel
def R_Answer : String := "PlainOrigin$Answer"
def T_Answer : u_T := fun k => match k with
  | 0 => ("PlainOrigin$Answer", "range", "LPlainOrigin$Range;", true)
  | 1 => ("PlainOrigin$Answer", "letters", "LPlainOrigin$Bytes;", true)
  | 2 => ("PlainOrigin$Answer", "number", "I", false)
  | 3 => ("PlainOrigin$Answer", "tag", "I", false)
  | 4 => ("PlainOrigin$Answer", "allows", "Z", false)
  | 5 => ("PlainOrigin$Answer", "closes", "Z", false)
  | 6 => ("PlainOrigin$Answer", "keepsAlive", "Z", false)
  | 7 => ("PlainOrigin$Answer", "toldLength", "I", false)
  | 8 => ("PlainOrigin$Answer", "body", "LPlainOrigin$Bytes;", false)
  | 9 => ("PlainOrigin$Answer", "from", "I", false)
  | 10 => ("PlainOrigin$Answer", "to", "I", false)
  | _ => ("PlainOrigin$Answer", "wholeLength", "I", false)
def ty_Answer : Nat → FieldType := fun k => match k with
  | 0 => .object "PlainOrigin$Range"
  | 1 => .object "PlainOrigin$Bytes"
  | 2 => .int
  | 3 => .int
  | 4 => .boolean
  | 5 => .boolean
  | 6 => .boolean
  | 7 => .int
  | 8 => .object "PlainOrigin$Bytes"
  | 9 => .int
  | 10 => .int
  | _ => .int
theorem nm_Answer : ∀ a, a < 12 → ∀ b, b < 12 → a ≠ b → (T_Answer a).2.1 ≠ (T_Answer b).2.1 := by decide +kernel
theorem tyok_Answer : ∀ k, k < 12 → parseFieldDescriptor (T_Answer k).2.2.1 = some (ty_Answer k) := by decide +kernel
def R_Outbox : String := "PlainOrigin$Outbox"
def T_Outbox : u_T := fun k => match k with
  | 0 => ("PlainOrigin$Outbox", "kept", "LPlainOrigin$Bytes;", true)
  | _ => ("PlainOrigin$Outbox", "total", "I", false)
def ty_Outbox : Nat → FieldType := fun k => match k with
  | 0 => .object "PlainOrigin$Bytes"
  | _ => .int
theorem nm_Outbox : ∀ a, a < 2 → ∀ b, b < 2 → a ≠ b → (T_Outbox a).2.1 ≠ (T_Outbox b).2.1 := by decide +kernel
theorem tyok_Outbox : ∀ k, k < 2 → parseFieldDescriptor (T_Outbox k).2.2.1 = some (ty_Outbox k) := by decide +kernel
def R_PlainOrigin : String := "PlainOrigin"
def T_PlainOrigin : u_T := fun k => match k with
  | 0 => ("PlainOrigin", "site", "LPlainOrigin$Site;", true)
  | 1 => ("PlainOrigin", "reader", "LPlainOrigin$Reader;", true)
  | 2 => ("PlainOrigin", "answer", "LPlainOrigin$Answer;", true)
  | 3 => ("PlainOrigin", "outbox", "LPlainOrigin$Outbox;", true)
  | _ => ("PlainOrigin", "latest", "I", false)
def ty_PlainOrigin : Nat → FieldType := fun k => match k with
  | 0 => .object "PlainOrigin$Site"
  | 1 => .object "PlainOrigin$Reader"
  | 2 => .object "PlainOrigin$Answer"
  | 3 => .object "PlainOrigin$Outbox"
  | _ => .int
theorem nm_PlainOrigin : ∀ a, a < 5 → ∀ b, b < 5 → a ≠ b → (T_PlainOrigin a).2.1 ≠ (T_PlainOrigin b).2.1 := by decide +kernel
theorem tyok_PlainOrigin : ∀ k, k < 5 → parseFieldDescriptor (T_PlainOrigin k).2.2.1 = some (ty_PlainOrigin k) := by decide +kernel
def R_Model : String := "PlainOriginModel"
def T_Model : u_T := fun k => match k with
  | 0 => ("PlainOriginModel", "words", "[J", true)
  | 1 => ("PlainOriginModel", "code", "I", false)
  | 2 => ("PlainOriginModel", "there", "[Z", true)
  | 3 => ("PlainOriginModel", "marks", "[I", true)
  | 4 => ("PlainOriginModel", "sizes", "[I", true)
  | 5 => ("PlainOriginModel", "content", "[I", true)
  | 6 => ("PlainOriginModel", "changes", "I", false)
  | 7 => ("PlainOriginModel", "open", "Z", false)
  | 8 => ("PlainOriginModel", "stage", "I", false)
  | 9 => ("PlainOriginModel", "half", "Z", false)
  | 10 => ("PlainOriginModel", "lineSize", "I", false)
  | 11 => ("PlainOriginModel", "line", "[I", true)
  | 12 => ("PlainOriginModel", "method", "I", false)
  | 13 => ("PlainOriginModel", "targetSize", "I", false)
  | 14 => ("PlainOriginModel", "target", "[I", true)
  | 15 => ("PlainOriginModel", "minor", "I", false)
  | 16 => ("PlainOriginModel", "last", "Z", false)
  | 17 => ("PlainOriginModel", "fields", "I", false)
  | 18 => ("PlainOriginModel", "text", "[I", true)
  | 19 => ("PlainOriginModel", "colon", "[I", true)
  | 20 => ("PlainOriginModel", "textSize", "[I", true)
  | 21 => ("PlainOriginModel", "due", "I", false)
  | 22 => ("PlainOriginModel", "bodySize", "I", false)
  | 23 => ("PlainOriginModel", "body", "[I", true)
  | 24 => ("PlainOriginModel", "trailers", "I", false)
  | 25 => ("PlainOriginModel", "wrong", "I", false)
  | 26 => ("PlainOriginModel", "elements", "I", false)
  | 27 => ("PlainOriginModel", "begins", "[I", true)
  | 28 => ("PlainOriginModel", "ends", "[I", true)
  | 29 => ("PlainOriginModel", "status", "I", false)
  | 30 => ("PlainOriginModel", "responses", "I", false)
  | 31 => ("PlainOriginModel", "sent", "I", false)
  | _ => ("PlainOriginModel", "out", "[I", true)
def ty_Model : Nat → FieldType := fun k => match k with
  | 0 => .array .long
  | 1 => .int
  | 2 => .array .boolean
  | 3 => .array .int
  | 4 => .array .int
  | 5 => .array .int
  | 6 => .int
  | 7 => .boolean
  | 8 => .int
  | 9 => .boolean
  | 10 => .int
  | 11 => .array .int
  | 12 => .int
  | 13 => .int
  | 14 => .array .int
  | 15 => .int
  | 16 => .boolean
  | 17 => .int
  | 18 => .array .int
  | 19 => .array .int
  | 20 => .array .int
  | 21 => .int
  | 22 => .int
  | 23 => .array .int
  | 24 => .int
  | 25 => .int
  | 26 => .int
  | 27 => .array .int
  | 28 => .array .int
  | 29 => .int
  | 30 => .int
  | 31 => .int
  | _ => .array .int
theorem nm_Model : ∀ a, a < 33 → ∀ b, b < 33 → a ≠ b → (T_Model a).2.1 ≠ (T_Model b).2.1 := by decide +kernel
theorem tyok_Model : ∀ k, k < 33 → parseFieldDescriptor (T_Model k).2.2.1 = some (ty_Model k) := by decide +kernel
def R_Text : String := "PlainOrigin$Text"
def R_Method : String := "PlainOrigin$Method"
def R_String : String := "java/lang/String"
def R_StringLatin1 : String := "java/lang/StringLatin1"
def R_Math : String := "java/lang/Math"
def R_Preconditions : String := "jdk/internal/util/Preconditions"
abbrev xCl : List vw_C := [(R_Bytes, T_Bytes, 2), (R_Fields, T_Fields, 9), (R_Request, T_Request, 9), (R_Reader, T_Reader, 6), (R_Resource, T_Resource, 2), (R_Site, T_Site, 2), (R_Range, T_Range, 2), (R_Answer, T_Answer, 12), (R_Outbox, T_Outbox, 2), (R_PlainOrigin, T_PlainOrigin, 5), (R_Model, T_Model, 33)]
