def nh_0 : List Cond := [.count 1, .isRef (.arg 0), .arrayOf (.arg 0) .int, .le (.length (.arg 0)) (.int (2048)), .isRef (.static "java/lang/Throwable" "UNASSIGNED_STACK" "[Ljava/lang/StackTraceElement;"), .isRef (.static "java/lang/Throwable" "SUPPRESSED_SENTINEL" "Ljava/util/List;"), .eq (.static "java/lang/String" "COMPACT_STRINGS" "Z") (.int (1)), .isRef (.static "jdk/internal/util/Preconditions" "SIOOBE_FORMATTER" "Ljava/util/function/BiFunction;"), .eq (.static "java/lang/StringUTF16" "$assertionsDisabled" "Z") (.int (1)), .eq (.static "java/lang/StringUTF16" "HI_BYTE_SHIFT" "I") (.int (0)), .eq (.static "java/lang/StringUTF16" "LO_BYTE_SHIFT" "I") (.int (8)), .isRef (.static "PlainOrigin" "METHODS" "[LPlainOrigin$Method;"), .exactly (.static "PlainOrigin" "METHODS" "[LPlainOrigin$Method;") "[LPlainOrigin$Method;", .arrayOf (.static "PlainOrigin" "METHODS" "[LPlainOrigin$Method;") (.object "PlainOrigin$Method"), .eq (.length (.static "PlainOrigin" "METHODS" "[LPlainOrigin$Method;")) (.int (7)), .all (.static "PlainOrigin" "METHODS" "[LPlainOrigin$Method;") (.le (.index 0) (.int (6)))]
def nh_1 : List Cond := [.eq (.elem (.static "PlainOrigin" "METHODS" "[LPlainOrigin$Method;") (.int (0))) (.static "PlainOrigin$Method" "GET" "LPlainOrigin$Method;"), .eq (.elem (.static "PlainOrigin" "METHODS" "[LPlainOrigin$Method;") (.int (1))) (.static "PlainOrigin$Method" "HEAD" "LPlainOrigin$Method;"), .eq (.elem (.static "PlainOrigin" "METHODS" "[LPlainOrigin$Method;") (.int (2))) (.static "PlainOrigin$Method" "PUT" "LPlainOrigin$Method;"), .eq (.elem (.static "PlainOrigin" "METHODS" "[LPlainOrigin$Method;") (.int (3))) (.static "PlainOrigin$Method" "POST" "LPlainOrigin$Method;"), .eq (.elem (.static "PlainOrigin" "METHODS" "[LPlainOrigin$Method;") (.int (4))) (.static "PlainOrigin$Method" "DELETE" "LPlainOrigin$Method;"), .eq (.elem (.static "PlainOrigin" "METHODS" "[LPlainOrigin$Method;") (.int (5))) (.static "PlainOrigin$Method" "OPTIONS" "LPlainOrigin$Method;"), .eq (.elem (.static "PlainOrigin" "METHODS" "[LPlainOrigin$Method;") (.int (6))) (.static "PlainOrigin$Method" "TRACE" "LPlainOrigin$Method;"), .exactly (.static "PlainOrigin$Method" "OPTIONS" "LPlainOrigin$Method;") "PlainOrigin$Method", .eq (.field (.static "PlainOrigin$Method" "OPTIONS" "LPlainOrigin$Method;") "java/lang/Enum" "ordinal" "I") (.int (5)), .eq (.field (.static "PlainOrigin$Method" "OPTIONS" "LPlainOrigin$Method;") "PlainOrigin$Method" "word" "Ljava/lang/String;") (.string "PlainOrigin$Method" 67), .exactly (.static "PlainOrigin$Method" "TRACE" "LPlainOrigin$Method;") "PlainOrigin$Method", .eq (.field (.static "PlainOrigin$Method" "TRACE" "LPlainOrigin$Method;") "java/lang/Enum" "ordinal" "I") (.int (6)), .eq (.field (.static "PlainOrigin$Method" "TRACE" "LPlainOrigin$Method;") "PlainOrigin$Method" "word" "Ljava/lang/String;") (.string "PlainOrigin$Method" 68), .not (.eq (.static "PlainOrigin$Method" "OPTIONS" "LPlainOrigin$Method;") (.static "PlainOrigin$Method" "TRACE" "LPlainOrigin$Method;")), .exactly (.static "PlainOrigin$Method" "GET" "LPlainOrigin$Method;") "PlainOrigin$Method", .eq (.field (.static "PlainOrigin$Method" "GET" "LPlainOrigin$Method;") "java/lang/Enum" "ordinal" "I") (.int (0))]
def nh_2 : List Cond := [.eq (.field (.static "PlainOrigin$Method" "GET" "LPlainOrigin$Method;") "PlainOrigin$Method" "word" "Ljava/lang/String;") (.string "PlainOrigin$Method" 59), .not (.eq (.static "PlainOrigin$Method" "OPTIONS" "LPlainOrigin$Method;") (.static "PlainOrigin$Method" "GET" "LPlainOrigin$Method;")), .not (.eq (.static "PlainOrigin$Method" "TRACE" "LPlainOrigin$Method;") (.static "PlainOrigin$Method" "GET" "LPlainOrigin$Method;")), .exactly (.static "PlainOrigin$Method" "HEAD" "LPlainOrigin$Method;") "PlainOrigin$Method", .eq (.field (.static "PlainOrigin$Method" "HEAD" "LPlainOrigin$Method;") "java/lang/Enum" "ordinal" "I") (.int (1)), .eq (.field (.static "PlainOrigin$Method" "HEAD" "LPlainOrigin$Method;") "PlainOrigin$Method" "word" "Ljava/lang/String;") (.string "PlainOrigin$Method" 63), .not (.eq (.static "PlainOrigin$Method" "OPTIONS" "LPlainOrigin$Method;") (.static "PlainOrigin$Method" "HEAD" "LPlainOrigin$Method;")), .not (.eq (.static "PlainOrigin$Method" "TRACE" "LPlainOrigin$Method;") (.static "PlainOrigin$Method" "HEAD" "LPlainOrigin$Method;")), .not (.eq (.static "PlainOrigin$Method" "GET" "LPlainOrigin$Method;") (.static "PlainOrigin$Method" "HEAD" "LPlainOrigin$Method;")), .exactly (.static "PlainOrigin$Method" "PUT" "LPlainOrigin$Method;") "PlainOrigin$Method", .eq (.field (.static "PlainOrigin$Method" "PUT" "LPlainOrigin$Method;") "java/lang/Enum" "ordinal" "I") (.int (2)), .eq (.field (.static "PlainOrigin$Method" "PUT" "LPlainOrigin$Method;") "PlainOrigin$Method" "word" "Ljava/lang/String;") (.string "PlainOrigin$Method" 64), .not (.eq (.static "PlainOrigin$Method" "OPTIONS" "LPlainOrigin$Method;") (.static "PlainOrigin$Method" "PUT" "LPlainOrigin$Method;")), .not (.eq (.static "PlainOrigin$Method" "TRACE" "LPlainOrigin$Method;") (.static "PlainOrigin$Method" "PUT" "LPlainOrigin$Method;")), .not (.eq (.static "PlainOrigin$Method" "GET" "LPlainOrigin$Method;") (.static "PlainOrigin$Method" "PUT" "LPlainOrigin$Method;")), .not (.eq (.static "PlainOrigin$Method" "HEAD" "LPlainOrigin$Method;") (.static "PlainOrigin$Method" "PUT" "LPlainOrigin$Method;"))]
def nh_3 : List Cond := [.exactly (.static "PlainOrigin$Method" "POST" "LPlainOrigin$Method;") "PlainOrigin$Method", .eq (.field (.static "PlainOrigin$Method" "POST" "LPlainOrigin$Method;") "java/lang/Enum" "ordinal" "I") (.int (3)), .eq (.field (.static "PlainOrigin$Method" "POST" "LPlainOrigin$Method;") "PlainOrigin$Method" "word" "Ljava/lang/String;") (.string "PlainOrigin$Method" 65), .not (.eq (.static "PlainOrigin$Method" "OPTIONS" "LPlainOrigin$Method;") (.static "PlainOrigin$Method" "POST" "LPlainOrigin$Method;")), .not (.eq (.static "PlainOrigin$Method" "TRACE" "LPlainOrigin$Method;") (.static "PlainOrigin$Method" "POST" "LPlainOrigin$Method;")), .not (.eq (.static "PlainOrigin$Method" "GET" "LPlainOrigin$Method;") (.static "PlainOrigin$Method" "POST" "LPlainOrigin$Method;")), .not (.eq (.static "PlainOrigin$Method" "HEAD" "LPlainOrigin$Method;") (.static "PlainOrigin$Method" "POST" "LPlainOrigin$Method;")), .not (.eq (.static "PlainOrigin$Method" "PUT" "LPlainOrigin$Method;") (.static "PlainOrigin$Method" "POST" "LPlainOrigin$Method;")), .exactly (.static "PlainOrigin$Method" "DELETE" "LPlainOrigin$Method;") "PlainOrigin$Method", .eq (.field (.static "PlainOrigin$Method" "DELETE" "LPlainOrigin$Method;") "java/lang/Enum" "ordinal" "I") (.int (4)), .eq (.field (.static "PlainOrigin$Method" "DELETE" "LPlainOrigin$Method;") "PlainOrigin$Method" "word" "Ljava/lang/String;") (.string "PlainOrigin$Method" 66), .not (.eq (.static "PlainOrigin$Method" "OPTIONS" "LPlainOrigin$Method;") (.static "PlainOrigin$Method" "DELETE" "LPlainOrigin$Method;")), .not (.eq (.static "PlainOrigin$Method" "TRACE" "LPlainOrigin$Method;") (.static "PlainOrigin$Method" "DELETE" "LPlainOrigin$Method;")), .not (.eq (.static "PlainOrigin$Method" "GET" "LPlainOrigin$Method;") (.static "PlainOrigin$Method" "DELETE" "LPlainOrigin$Method;")), .not (.eq (.static "PlainOrigin$Method" "HEAD" "LPlainOrigin$Method;") (.static "PlainOrigin$Method" "DELETE" "LPlainOrigin$Method;")), .not (.eq (.static "PlainOrigin$Method" "PUT" "LPlainOrigin$Method;") (.static "PlainOrigin$Method" "DELETE" "LPlainOrigin$Method;"))]
def nh_4 : List Cond := [.not (.eq (.static "PlainOrigin$Method" "POST" "LPlainOrigin$Method;") (.static "PlainOrigin$Method" "DELETE" "LPlainOrigin$Method;")), .not (.castable "PlainOrigin" "java/lang/IllegalArgumentException"), .not (.castable "PlainOrigin$Site" "java/lang/IllegalArgumentException"), .not (.castable "PlainOrigin$Resource" "java/lang/IllegalArgumentException"), .not (.castable "PlainOrigin$Bytes" "java/lang/IllegalArgumentException"), .not (.castable "PlainOrigin$Reader" "java/lang/IllegalArgumentException"), .not (.castable "PlainOrigin$Request" "java/lang/IllegalArgumentException"), .not (.castable "PlainOrigin$Fields" "java/lang/IllegalArgumentException"), .not (.castable "PlainOrigin$Answer" "java/lang/IllegalArgumentException"), .not (.castable "PlainOrigin$Range" "java/lang/IllegalArgumentException"), .not (.castable "PlainOrigin$Outbox" "java/lang/IllegalArgumentException"), .not (.castable "PlainOriginModel" "java/lang/IllegalArgumentException"), .not (.castable "PlainOrigin$Method" "java/lang/IllegalArgumentException"), .not (.castable "java/lang/IndexOutOfBoundsException" "java/lang/IllegalArgumentException"), .not (.castable "java/util/NoSuchElementException" "java/lang/IllegalArgumentException"), .not (.castable "PlainOrigin" "java/lang/IndexOutOfBoundsException")]
def nh_5 : List Cond := [.not (.castable "PlainOrigin$Site" "java/lang/IndexOutOfBoundsException"), .not (.castable "PlainOrigin$Resource" "java/lang/IndexOutOfBoundsException"), .not (.castable "PlainOrigin$Bytes" "java/lang/IndexOutOfBoundsException"), .not (.castable "PlainOrigin$Reader" "java/lang/IndexOutOfBoundsException"), .not (.castable "PlainOrigin$Request" "java/lang/IndexOutOfBoundsException"), .not (.castable "PlainOrigin$Fields" "java/lang/IndexOutOfBoundsException"), .not (.castable "PlainOrigin$Answer" "java/lang/IndexOutOfBoundsException"), .not (.castable "PlainOrigin$Range" "java/lang/IndexOutOfBoundsException"), .not (.castable "PlainOrigin$Outbox" "java/lang/IndexOutOfBoundsException"), .not (.castable "PlainOriginModel" "java/lang/IndexOutOfBoundsException"), .not (.castable "java/lang/IllegalArgumentException" "java/lang/IndexOutOfBoundsException"), .not (.castable "PlainOrigin$Method" "java/lang/IndexOutOfBoundsException"), .not (.castable "java/util/NoSuchElementException" "java/lang/IndexOutOfBoundsException"), .not (.castable "PlainOrigin" "java/util/NoSuchElementException"), .not (.castable "PlainOrigin$Site" "java/util/NoSuchElementException"), .not (.castable "PlainOrigin$Resource" "java/util/NoSuchElementException")]
def nh_6 : List Cond := [.not (.castable "PlainOrigin$Bytes" "java/util/NoSuchElementException"), .not (.castable "PlainOrigin$Reader" "java/util/NoSuchElementException"), .not (.castable "PlainOrigin$Request" "java/util/NoSuchElementException"), .not (.castable "PlainOrigin$Fields" "java/util/NoSuchElementException"), .not (.castable "PlainOrigin$Answer" "java/util/NoSuchElementException"), .not (.castable "PlainOrigin$Range" "java/util/NoSuchElementException"), .not (.castable "PlainOrigin$Outbox" "java/util/NoSuchElementException"), .not (.castable "PlainOriginModel" "java/util/NoSuchElementException"), .not (.castable "java/lang/IllegalArgumentException" "java/util/NoSuchElementException"), .not (.castable "PlainOrigin$Method" "java/util/NoSuchElementException"), .not (.castable "java/lang/IndexOutOfBoundsException" "java/util/NoSuchElementException")]
def nwL : List (String × Nat × List Cond) := [("PlainOrigin", 43, []), ("PlainOrigin$Text", 40, []), ("PlainOrigin$Text", 55, []), ("PlainOrigin$Text", 50, []), ("PlainOrigin$Request", 86, []), ("PlainOrigin$Request", 102, []), ("PlainOrigin$Text", 61, []), ("PlainOrigin$Request", 128, []), ("PlainOrigin$Request", 130, []), ("PlainOrigin$Request", 135, []), ("PlainOrigin$Request", 144, []), ("PlainOrigin$Request", 146, []), ("PlainOrigin$Request", 148, []), ("PlainOrigin$Request", 150, []), ("PlainOrigin$Request", 156, []), ("PlainOrigin$Answer", 153, []), ("PlainOrigin$Answer", 161, [.eq (.string "PlainOrigin$Request" 86) (.string "PlainOrigin$Answer" 161)]), ("PlainOrigin$Range", 9, []), ("PlainOrigin$Range", 31, []), ("PlainOrigin$Site", 38, [.eq (.string "PlainOrigin$Answer" 153) (.string "PlainOrigin$Site" 38)]), ("PlainOrigin$Site", 40, [.eq (.string "PlainOrigin$Request" 86) (.string "PlainOrigin$Site" 40), .eq (.string "PlainOrigin$Answer" 161) (.string "PlainOrigin$Site" 40)]), ("PlainOrigin$Outbox", 27, []), ("PlainOrigin$Outbox", 41, []), ("PlainOrigin$Outbox", 65, []), ("PlainOrigin$Outbox", 47, []), ("PlainOrigin$Outbox", 73, []), ("PlainOrigin$Outbox", 75, []), ("PlainOrigin$Outbox", 98, []), ("PlainOrigin$Outbox", 84, []), ("PlainOrigin$Outbox", 86, []), ("PlainOrigin$Outbox", 91, []), ("PlainOrigin$Outbox", 96, []), ("PlainOrigin", 88, []), ("PlainOrigin", 127, []), ("PlainOrigin", 118, []), ("PlainOrigin$Method", 67, []), ("PlainOrigin$Method", 68, []), ("PlainOrigin$Method", 59, []), ("PlainOrigin$Method", 63, []), ("PlainOrigin$Method", 64, []), ("PlainOrigin$Method", 65, []), ("PlainOrigin$Method", 66, [])]
def nw_q (i : Nat) : String × Nat × List Cond := nwL.getD i ("", 0, [])
def nw_t (i : Nat) : Term := .string (nw_q i).1 (nw_q i).2.1
def nw_f (i : Nat) : Term := .field (nw_t i) "java/lang/String" "value" "[B"
def nw_s (i : Nat) : List Cond := [.exactly (nw_t i) "java/lang/String", .eq (.field (nw_t i) "java/lang/String" "coder" "B") (.int 0), .arrayOf (nw_f i) .byte, .eq (.length (nw_f i)) (.int (Int32.ofNat (slen i)))] ++ ((List.range (slen i)).map (fun j => .eq (.elem (nw_f i) (.int (Int32.ofNat j))) (.int (sbyt i j))) ++ (nw_q i).2.2)
set_option maxRecDepth 200000 in
set_option maxHeartbeats 4000000 in
theorem nw_flat : flatC (Jvm.Cond.and given_1 narrow_1) = nh_0 ++ (nh_1 ++ (nh_2 ++ (nh_3 ++ (nh_4 ++ (nh_5 ++ (nh_6 ++ (List.range 42).flatMap nw_s)))))) := rfl
theorem nm_0 {w : Cond} (h : w ∈ nh_0) : w ∈ flatC (Jvm.Cond.and given_1 narrow_1) := by rw [nw_flat]; exact List.mem_append_left _ h
theorem nm_1 {w : Cond} (h : w ∈ nh_1) : w ∈ flatC (Jvm.Cond.and given_1 narrow_1) := by rw [nw_flat]; exact List.mem_append_right _ (List.mem_append_left _ h)
theorem nm_2 {w : Cond} (h : w ∈ nh_2) : w ∈ flatC (Jvm.Cond.and given_1 narrow_1) := by rw [nw_flat]; exact List.mem_append_right _ (List.mem_append_right _ (List.mem_append_left _ h))
theorem nm_3 {w : Cond} (h : w ∈ nh_3) : w ∈ flatC (Jvm.Cond.and given_1 narrow_1) := by rw [nw_flat]; exact List.mem_append_right _ (List.mem_append_right _ (List.mem_append_right _ (List.mem_append_left _ h)))
theorem nm_4 {w : Cond} (h : w ∈ nh_4) : w ∈ flatC (Jvm.Cond.and given_1 narrow_1) := by rw [nw_flat]; exact List.mem_append_right _ (List.mem_append_right _ (List.mem_append_right _ (List.mem_append_right _ (List.mem_append_left _ h))))
theorem nm_5 {w : Cond} (h : w ∈ nh_5) : w ∈ flatC (Jvm.Cond.and given_1 narrow_1) := by rw [nw_flat]; exact List.mem_append_right _ (List.mem_append_right _ (List.mem_append_right _ (List.mem_append_right _ (List.mem_append_right _ (List.mem_append_left _ h)))))
theorem nm_6 {w : Cond} (h : w ∈ nh_6) : w ∈ flatC (Jvm.Cond.and given_1 narrow_1) := by rw [nw_flat]; exact List.mem_append_right _ (List.mem_append_right _ (List.mem_append_right _ (List.mem_append_right _ (List.mem_append_right _ (List.mem_append_right _ (List.mem_append_left _ h))))))
theorem nm_s {w : Cond} {i : Nat} (hi : i < 42) (h : w ∈ nw_s i) : w ∈ flatC (Jvm.Cond.and given_1 narrow_1) := by rw [nw_flat]; exact List.mem_append_right _ (List.mem_append_right _ (List.mem_append_right _ (List.mem_append_right _ (List.mem_append_right _ (List.mem_append_right _ (List.mem_append_right _ (List.mem_flatMap.mpr ⟨i, List.mem_range.mpr hi, h⟩)))))))
theorem tl_1_10 {w : Cond} (h : w ∈ sl_1_10) : w ∈ lw_tbl := List.mem_append_right _ (List.mem_append_right _ (List.mem_append_left _ (by rw [tc_1]; exact List.mem_append_right _ (List.mem_append_right _ (List.mem_append_right _ (List.mem_append_right _ (List.mem_append_right _ (List.mem_append_right _ (List.mem_append_right _ (List.mem_append_right _ (List.mem_append_right _ (List.mem_append_right _ (List.mem_append_left _ h)))))))))))))
theorem tl_2_0 {w : Cond} (h : w ∈ sl_2_0) : w ∈ lw_tbl := List.mem_append_right _ (List.mem_append_right _ (List.mem_append_right _ (List.mem_append_left _ (by rw [tc_2]; exact List.mem_append_left _ h))))
theorem tl_2_6 {w : Cond} (h : w ∈ sl_2_6) : w ∈ lw_tbl := List.mem_append_right _ (List.mem_append_right _ (List.mem_append_right _ (List.mem_append_left _ (by rw [tc_2]; exact List.mem_append_right _ (List.mem_append_right _ (List.mem_append_right _ (List.mem_append_right _ (List.mem_append_right _ (List.mem_append_right _ (List.mem_append_left _ h))))))))))
theorem tl_2_8 {w : Cond} (h : w ∈ sl_2_8) : w ∈ lw_tbl := List.mem_append_right _ (List.mem_append_right _ (List.mem_append_right _ (List.mem_append_left _ (by rw [tc_2]; exact List.mem_append_right _ (List.mem_append_right _ (List.mem_append_right _ (List.mem_append_right _ (List.mem_append_right _ (List.mem_append_right _ (List.mem_append_right _ (List.mem_append_right _ (List.mem_append_left _ h))))))))))))
theorem tl_2_9 {w : Cond} (h : w ∈ sl_2_9) : w ∈ lw_tbl := List.mem_append_right _ (List.mem_append_right _ (List.mem_append_right _ (List.mem_append_left _ (by rw [tc_2]; exact List.mem_append_right _ (List.mem_append_right _ (List.mem_append_right _ (List.mem_append_right _ (List.mem_append_right _ (List.mem_append_right _ (List.mem_append_right _ (List.mem_append_right _ (List.mem_append_right _ (List.mem_append_left _ h)))))))))))))
theorem tl_2_12 {w : Cond} (h : w ∈ sl_2_12) : w ∈ lw_tbl := List.mem_append_right _ (List.mem_append_right _ (List.mem_append_right _ (List.mem_append_left _ (by rw [tc_2]; exact List.mem_append_right _ (List.mem_append_right _ (List.mem_append_right _ (List.mem_append_right _ (List.mem_append_right _ (List.mem_append_right _ (List.mem_append_right _ (List.mem_append_right _ (List.mem_append_right _ (List.mem_append_right _ (List.mem_append_right _ (List.mem_append_right _ (List.mem_append_left _ h))))))))))))))))
theorem tl_2_14 {w : Cond} (h : w ∈ sl_2_14) : w ∈ lw_tbl := List.mem_append_right _ (List.mem_append_right _ (List.mem_append_right _ (List.mem_append_left _ (by rw [tc_2]; exact List.mem_append_right _ (List.mem_append_right _ (List.mem_append_right _ (List.mem_append_right _ (List.mem_append_right _ (List.mem_append_right _ (List.mem_append_right _ (List.mem_append_right _ (List.mem_append_right _ (List.mem_append_right _ (List.mem_append_right _ (List.mem_append_right _ (List.mem_append_right _ (List.mem_append_right _ (h))))))))))))))))))
theorem tl_3_0 {w : Cond} (h : w ∈ sl_3_0) : w ∈ lw_tbl := List.mem_append_right _ (List.mem_append_right _ (List.mem_append_right _ (List.mem_append_right _ (List.mem_append_left _ (by rw [tc_3]; exact List.mem_append_left _ h)))))
theorem tl_3_1 {w : Cond} (h : w ∈ sl_3_1) : w ∈ lw_tbl := List.mem_append_right _ (List.mem_append_right _ (List.mem_append_right _ (List.mem_append_right _ (List.mem_append_left _ (by rw [tc_3]; exact List.mem_append_right _ (List.mem_append_left _ h))))))
theorem tl_3_2 {w : Cond} (h : w ∈ sl_3_2) : w ∈ lw_tbl := List.mem_append_right _ (List.mem_append_right _ (List.mem_append_right _ (List.mem_append_right _ (List.mem_append_left _ (by rw [tc_3]; exact List.mem_append_right _ (List.mem_append_right _ (List.mem_append_left _ h)))))))
theorem tl_3_5 {w : Cond} (h : w ∈ sl_3_5) : w ∈ lw_tbl := List.mem_append_right _ (List.mem_append_right _ (List.mem_append_right _ (List.mem_append_right _ (List.mem_append_left _ (by rw [tc_3]; exact List.mem_append_right _ (List.mem_append_right _ (List.mem_append_right _ (List.mem_append_right _ (List.mem_append_right _ (List.mem_append_left _ h))))))))))
theorem tl_3_6 {w : Cond} (h : w ∈ sl_3_6) : w ∈ lw_tbl := List.mem_append_right _ (List.mem_append_right _ (List.mem_append_right _ (List.mem_append_right _ (List.mem_append_left _ (by rw [tc_3]; exact List.mem_append_right _ (List.mem_append_right _ (List.mem_append_right _ (List.mem_append_right _ (List.mem_append_right _ (List.mem_append_right _ (List.mem_append_left _ h)))))))))))
theorem tl_3_7 {w : Cond} (h : w ∈ sl_3_7) : w ∈ lw_tbl := List.mem_append_right _ (List.mem_append_right _ (List.mem_append_right _ (List.mem_append_right _ (List.mem_append_left _ (by rw [tc_3]; exact List.mem_append_right _ (List.mem_append_right _ (List.mem_append_right _ (List.mem_append_right _ (List.mem_append_right _ (List.mem_append_right _ (List.mem_append_right _ (List.mem_append_left _ h))))))))))))
theorem tl_3_8 {w : Cond} (h : w ∈ sl_3_8) : w ∈ lw_tbl := List.mem_append_right _ (List.mem_append_right _ (List.mem_append_right _ (List.mem_append_right _ (List.mem_append_left _ (by rw [tc_3]; exact List.mem_append_right _ (List.mem_append_right _ (List.mem_append_right _ (List.mem_append_right _ (List.mem_append_right _ (List.mem_append_right _ (List.mem_append_right _ (List.mem_append_right _ (List.mem_append_left _ h)))))))))))))
theorem tl_3_9 {w : Cond} (h : w ∈ sl_3_9) : w ∈ lw_tbl := List.mem_append_right _ (List.mem_append_right _ (List.mem_append_right _ (List.mem_append_right _ (List.mem_append_left _ (by rw [tc_3]; exact List.mem_append_right _ (List.mem_append_right _ (List.mem_append_right _ (List.mem_append_right _ (List.mem_append_right _ (List.mem_append_right _ (List.mem_append_right _ (List.mem_append_right _ (List.mem_append_right _ (List.mem_append_left _ h))))))))))))))
theorem tl_3_10 {w : Cond} (h : w ∈ sl_3_10) : w ∈ lw_tbl := List.mem_append_right _ (List.mem_append_right _ (List.mem_append_right _ (List.mem_append_right _ (List.mem_append_left _ (by rw [tc_3]; exact List.mem_append_right _ (List.mem_append_right _ (List.mem_append_right _ (List.mem_append_right _ (List.mem_append_right _ (List.mem_append_right _ (List.mem_append_right _ (List.mem_append_right _ (List.mem_append_right _ (List.mem_append_right _ (List.mem_append_left _ h)))))))))))))))
theorem tl_3_12 {w : Cond} (h : w ∈ sl_3_12) : w ∈ lw_tbl := List.mem_append_right _ (List.mem_append_right _ (List.mem_append_right _ (List.mem_append_right _ (List.mem_append_left _ (by rw [tc_3]; exact List.mem_append_right _ (List.mem_append_right _ (List.mem_append_right _ (List.mem_append_right _ (List.mem_append_right _ (List.mem_append_right _ (List.mem_append_right _ (List.mem_append_right _ (List.mem_append_right _ (List.mem_append_right _ (List.mem_append_right _ (List.mem_append_right _ (List.mem_append_left _ h)))))))))))))))))
theorem tl_3_13 {w : Cond} (h : w ∈ sl_3_13) : w ∈ lw_tbl := List.mem_append_right _ (List.mem_append_right _ (List.mem_append_right _ (List.mem_append_right _ (List.mem_append_left _ (by rw [tc_3]; exact List.mem_append_right _ (List.mem_append_right _ (List.mem_append_right _ (List.mem_append_right _ (List.mem_append_right _ (List.mem_append_right _ (List.mem_append_right _ (List.mem_append_right _ (List.mem_append_right _ (List.mem_append_right _ (List.mem_append_right _ (List.mem_append_right _ (List.mem_append_right _ (List.mem_append_left _ h))))))))))))))))))
theorem tl_3_14 {w : Cond} (h : w ∈ sl_3_14) : w ∈ lw_tbl := List.mem_append_right _ (List.mem_append_right _ (List.mem_append_right _ (List.mem_append_right _ (List.mem_append_left _ (by rw [tc_3]; exact List.mem_append_right _ (List.mem_append_right _ (List.mem_append_right _ (List.mem_append_right _ (List.mem_append_right _ (List.mem_append_right _ (List.mem_append_right _ (List.mem_append_right _ (List.mem_append_right _ (List.mem_append_right _ (List.mem_append_right _ (List.mem_append_right _ (List.mem_append_right _ (List.mem_append_right _ (h)))))))))))))))))))
theorem tl_5_8 {w : Cond} (h : w ∈ sl_5_8) : w ∈ lw_tbl := List.mem_append_right _ (List.mem_append_right _ (List.mem_append_right _ (List.mem_append_right _ (List.mem_append_right _ (List.mem_append_right _ (by rw [tc_5]; exact List.mem_append_right _ (List.mem_append_right _ (List.mem_append_right _ (List.mem_append_right _ (List.mem_append_right _ (List.mem_append_right _ (List.mem_append_right _ (List.mem_append_right _ (List.mem_append_left _ h))))))))))))))
theorem tl_5_9 {w : Cond} (h : w ∈ sl_5_9) : w ∈ lw_tbl := List.mem_append_right _ (List.mem_append_right _ (List.mem_append_right _ (List.mem_append_right _ (List.mem_append_right _ (List.mem_append_right _ (by rw [tc_5]; exact List.mem_append_right _ (List.mem_append_right _ (List.mem_append_right _ (List.mem_append_right _ (List.mem_append_right _ (List.mem_append_right _ (List.mem_append_right _ (List.mem_append_right _ (List.mem_append_right _ (h)))))))))))))))
theorem tl_3_3 {w : Cond} (h : w ∈ sl_3_3) : w ∈ lw_tbl := List.mem_append_right _ (List.mem_append_right _ (List.mem_append_right _ (List.mem_append_right _ (List.mem_append_left _ (by rw [tc_3]; exact List.mem_append_right _ (List.mem_append_right _ (List.mem_append_right _ (List.mem_append_left _ h))))))))
theorem tl_2_4 {w : Cond} (h : w ∈ sl_2_4) : w ∈ lw_tbl := List.mem_append_right _ (List.mem_append_right _ (List.mem_append_right _ (List.mem_append_left _ (by rw [tc_2]; exact List.mem_append_right _ (List.mem_append_right _ (List.mem_append_right _ (List.mem_append_right _ (List.mem_append_left _ h))))))))
theorem tl_0_3 {w : Cond} (h : w ∈ sl_0_3) : w ∈ lw_tbl := List.mem_append_right _ (List.mem_append_left _ (by rw [tc_0]; exact List.mem_append_right _ (List.mem_append_right _ (List.mem_append_right _ (List.mem_append_left _ h)))))
theorem tl_0_4 {w : Cond} (h : w ∈ sl_0_4) : w ∈ lw_tbl := List.mem_append_right _ (List.mem_append_left _ (by rw [tc_0]; exact List.mem_append_right _ (List.mem_append_right _ (List.mem_append_right _ (List.mem_append_right _ (List.mem_append_left _ h))))))
theorem tl_0_5 {w : Cond} (h : w ∈ sl_0_5) : w ∈ lw_tbl := List.mem_append_right _ (List.mem_append_left _ (by rw [tc_0]; exact List.mem_append_right _ (List.mem_append_right _ (List.mem_append_right _ (List.mem_append_right _ (List.mem_append_right _ (List.mem_append_left _ h)))))))
theorem tl_0_7 {w : Cond} (h : w ∈ sl_0_7) : w ∈ lw_tbl := List.mem_append_right _ (List.mem_append_left _ (by rw [tc_0]; exact List.mem_append_right _ (List.mem_append_right _ (List.mem_append_right _ (List.mem_append_right _ (List.mem_append_right _ (List.mem_append_right _ (List.mem_append_right _ (List.mem_append_left _ h)))))))))
theorem tl_0_9 {w : Cond} (h : w ∈ sl_0_9) : w ∈ lw_tbl := List.mem_append_right _ (List.mem_append_left _ (by rw [tc_0]; exact List.mem_append_right _ (List.mem_append_right _ (List.mem_append_right _ (List.mem_append_right _ (List.mem_append_right _ (List.mem_append_right _ (List.mem_append_right _ (List.mem_append_right _ (List.mem_append_right _ (List.mem_append_left _ h)))))))))))
theorem tl_0_10 {w : Cond} (h : w ∈ sl_0_10) : w ∈ lw_tbl := List.mem_append_right _ (List.mem_append_left _ (by rw [tc_0]; exact List.mem_append_right _ (List.mem_append_right _ (List.mem_append_right _ (List.mem_append_right _ (List.mem_append_right _ (List.mem_append_right _ (List.mem_append_right _ (List.mem_append_right _ (List.mem_append_right _ (List.mem_append_right _ (List.mem_append_left _ h))))))))))))
theorem tl_0_11 {w : Cond} (h : w ∈ sl_0_11) : w ∈ lw_tbl := List.mem_append_right _ (List.mem_append_left _ (by rw [tc_0]; exact List.mem_append_right _ (List.mem_append_right _ (List.mem_append_right _ (List.mem_append_right _ (List.mem_append_right _ (List.mem_append_right _ (List.mem_append_right _ (List.mem_append_right _ (List.mem_append_right _ (List.mem_append_right _ (List.mem_append_right _ (List.mem_append_left _ h)))))))))))))
theorem tl_0_12 {w : Cond} (h : w ∈ sl_0_12) : w ∈ lw_tbl := List.mem_append_right _ (List.mem_append_left _ (by rw [tc_0]; exact List.mem_append_right _ (List.mem_append_right _ (List.mem_append_right _ (List.mem_append_right _ (List.mem_append_right _ (List.mem_append_right _ (List.mem_append_right _ (List.mem_append_right _ (List.mem_append_right _ (List.mem_append_right _ (List.mem_append_right _ (List.mem_append_right _ (List.mem_append_left _ h))))))))))))))
theorem tl_0_13 {w : Cond} (h : w ∈ sl_0_13) : w ∈ lw_tbl := List.mem_append_right _ (List.mem_append_left _ (by rw [tc_0]; exact List.mem_append_right _ (List.mem_append_right _ (List.mem_append_right _ (List.mem_append_right _ (List.mem_append_right _ (List.mem_append_right _ (List.mem_append_right _ (List.mem_append_right _ (List.mem_append_right _ (List.mem_append_right _ (List.mem_append_right _ (List.mem_append_right _ (List.mem_append_right _ (List.mem_append_left _ h)))))))))))))))
theorem tl_0_14 {w : Cond} (h : w ∈ sl_0_14) : w ∈ lw_tbl := List.mem_append_right _ (List.mem_append_left _ (by rw [tc_0]; exact List.mem_append_right _ (List.mem_append_right _ (List.mem_append_right _ (List.mem_append_right _ (List.mem_append_right _ (List.mem_append_right _ (List.mem_append_right _ (List.mem_append_right _ (List.mem_append_right _ (List.mem_append_right _ (List.mem_append_right _ (List.mem_append_right _ (List.mem_append_right _ (List.mem_append_right _ (h))))))))))))))))
theorem tl_1_0 {w : Cond} (h : w ∈ sl_1_0) : w ∈ lw_tbl := List.mem_append_right _ (List.mem_append_right _ (List.mem_append_left _ (by rw [tc_1]; exact List.mem_append_left _ h)))
theorem tl_1_3 {w : Cond} (h : w ∈ sl_1_3) : w ∈ lw_tbl := List.mem_append_right _ (List.mem_append_right _ (List.mem_append_left _ (by rw [tc_1]; exact List.mem_append_right _ (List.mem_append_right _ (List.mem_append_right _ (List.mem_append_left _ h))))))
theorem tl_1_8 {w : Cond} (h : w ∈ sl_1_8) : w ∈ lw_tbl := List.mem_append_right _ (List.mem_append_right _ (List.mem_append_left _ (by rw [tc_1]; exact List.mem_append_right _ (List.mem_append_right _ (List.mem_append_right _ (List.mem_append_right _ (List.mem_append_right _ (List.mem_append_right _ (List.mem_append_right _ (List.mem_append_right _ (List.mem_append_left _ h)))))))))))
theorem tl_3_11 {w : Cond} (h : w ∈ sl_3_11) : w ∈ lw_tbl := List.mem_append_right _ (List.mem_append_right _ (List.mem_append_right _ (List.mem_append_right _ (List.mem_append_left _ (by rw [tc_3]; exact List.mem_append_right _ (List.mem_append_right _ (List.mem_append_right _ (List.mem_append_right _ (List.mem_append_right _ (List.mem_append_right _ (List.mem_append_right _ (List.mem_append_right _ (List.mem_append_right _ (List.mem_append_right _ (List.mem_append_right _ (List.mem_append_left _ h))))))))))))))))
theorem tl_0_2 {w : Cond} (h : w ∈ sl_0_2) : w ∈ lw_tbl := List.mem_append_right _ (List.mem_append_left _ (by rw [tc_0]; exact List.mem_append_right _ (List.mem_append_right _ (List.mem_append_left _ h))))
theorem tl_2_1 {w : Cond} (h : w ∈ sl_2_1) : w ∈ lw_tbl := List.mem_append_right _ (List.mem_append_right _ (List.mem_append_right _ (List.mem_append_left _ (by rw [tc_2]; exact List.mem_append_right _ (List.mem_append_left _ h)))))
theorem xs_uw {s : State} {args : Array Value} (hts : ∀ w ∈ lw_tbl, w.before args s = true) : ∀ w ∈ UW, w.before args s = true := fun w h => hts w (List.mem_filter.mp h).1
theorem xs_str {s : State} {args : Array Value} (hq : ∀ w ∈ flatC (Jvm.Cond.and given_1 narrow_1), w.before args s = true) {A : Nat → Prop} (hA : ∀ a : Nat, a < s.heap.size → ¬ A a) : ∃ adK adV : Nat → Nat, ∀ i, i < 42 → (nw_t i).eval args s none [] s = some (.ref (adK i)) ∧ va_O "java/lang/String" (adK i) A s s.heap ∧ va_OF "java/lang/String" "coder" "B" (.int 0) (adK i) A s s.heap ∧ va_OF "java/lang/String" "value" "[B" (.ref (adV i)) (adK i) A s s.heap ∧ va_T .byte (adV i) (slen i) (fun j => .int (sbyt i j)) A s s.heap := by
  have hlen : ∀ i, i < 42 → slen i < 2 ^ 31 := by decide
  have h0 : ∀ i : Nat, ∃ q : Nat × Nat, i < 42 → (nw_t i).eval args s none [] s = some (.ref q.1) ∧ va_O "java/lang/String" q.1 A s s.heap ∧ va_OF "java/lang/String" "coder" "B" (.int 0) q.1 A s s.heap ∧ va_OF "java/lang/String" "value" "[B" (.ref q.2) q.1 A s s.heap ∧ va_T .byte q.2 (slen i) (fun j => .int (sbyt i j)) A s s.heap := by
    intro i
    by_cases hi : i < 42
    · have hm : ∀ w ∈ nw_s i, w.before args s = true := fun w h => hq w (nm_s hi h)
      have e1 : (Cond.exactly (nw_t i) "java/lang/String").before args s = true := hm _ (by simp [nw_s])
      have e2 : (Cond.eq (.field (nw_t i) "java/lang/String" "coder" "B") (.int 0)).before args s = true := hm _ (by simp [nw_s])
      have e3 : (Cond.arrayOf (nw_f i) .byte).before args s = true := hm _ (by simp [nw_s])
      have e4 : (Cond.eq (.length (nw_f i)) (.int (Int32.ofNat (slen i)))).before args s = true := hm _ (by simp [nw_s])
      have e5 : ∀ j, j < slen i → (Cond.eq (.elem (nw_f i) (.int (Int32.ofNat j))) (.int (sbyt i j))).before args s = true := fun j hj => hm _ (List.mem_append_right _ (List.mem_append_left _ (List.mem_map.mpr ⟨j, List.mem_range.mpr hj, rfl⟩)))
      obtain ⟨a, c, cA, kA, q1, q2, q3, q4, q5, q6, -⟩ := Cond.exactly_spec (args := args) (first := s) (o := none) (s := s) (idx := []) (t := nw_t i) (cls := "java/lang/String") e1
      obtain ⟨t, ht, hT⟩ := va_Tof (f := fun j => .int (sbyt i j)) (A := A) (hlen i hi) e3 (va_eqt e4) (fun j hj => va_eqt (e5 j hj)) hA
      exact ⟨(a, t), fun _ => ⟨q1, ⟨cA, q3, q5, by rw [q6]; exact q2, hA a (Array.getElem?_eq_some_iff.mp q3).1⟩, vk_OFof q1 (va_eqt e2) hA, vk_OFof q1 ht hA, hT⟩⟩
    · exact ⟨(0, 0), fun h => absurd h hi⟩
  obtain ⟨ad, had⟩ := Classical.axiomOfChoice h0
  exact ⟨fun i => (ad i).1, fun i => (ad i).2, fun i hi => had i hi⟩
theorem xs_ref {s : State} {args : Array Value} (hts : ∀ w ∈ lw_tbl, w.before args s = true) {adK : Nat → Nat} (hk : ∀ i, i < 42 → (nw_t i).eval args s none [] s = some (.ref (adK i))) : ∀ q ∈ gw_S, vk_R q.1 q.2.1 q.2.2.1 (adK q.2.2.2) s := by
  intro q hq
  simp only [gw_S, List.mem_cons, List.not_mem_nil, or_false] at hq
  rcases hq with rfl | rfl | rfl | rfl | rfl | rfl | rfl | rfl | rfl | rfl | rfl | rfl | rfl | rfl | rfl | rfl | rfl | rfl | rfl | rfl | rfl | rfl | rfl | rfl | rfl | rfl | rfl | rfl | rfl | rfl | rfl | rfl | rfl | rfl | rfl | rfl | rfl | rfl | rfl | rfl | rfl | rfl
  · exact vk_R.of (hts _ (tl_1_10 (List.mem_of_getElem? (i := 14) rfl))) (hk 0 (by decide))
  · exact vk_R.of (hts _ (tl_2_0 (List.mem_of_getElem? (i := 7) rfl))) (hk 1 (by decide))
  · exact vk_R.of (hts _ (tl_2_6 (List.mem_of_getElem? (i := 7) rfl))) (hk 2 (by decide))
  · exact vk_R.of (hts _ (tl_2_8 (List.mem_of_getElem? (i := 9) rfl))) (hk 3 (by decide))
  · exact vk_R.of (hts _ (tl_2_9 (List.mem_of_getElem? (i := 3) rfl))) (hk 4 (by decide))
  · exact vk_R.of (hts _ (tl_2_12 (List.mem_of_getElem? (i := 13) rfl))) (hk 5 (by decide))
  · exact vk_R.of (hts _ (tl_2_14 (List.mem_of_getElem? (i := 3) rfl))) (hk 6 (by decide))
  · exact vk_R.of (hts _ (tl_2_14 (List.mem_of_getElem? (i := 8) rfl))) (hk 7 (by decide))
  · exact vk_R.of (hts _ (tl_2_14 (List.mem_of_getElem? (i := 9) rfl))) (hk 8 (by decide))
  · exact vk_R.of (hts _ (tl_3_0 (List.mem_of_getElem? (i := 8) rfl))) (hk 9 (by decide))
  · exact vk_R.of (hts _ (tl_3_1 (List.mem_of_getElem? (i := 12) rfl))) (hk 10 (by decide))
  · exact vk_R.of (hts _ (tl_3_1 (List.mem_of_getElem? (i := 13) rfl))) (hk 11 (by decide))
  · exact vk_R.of (hts _ (tl_3_2 (List.mem_of_getElem? (i := 2) rfl))) (hk 12 (by decide))
  · exact vk_R.of (hts _ (tl_3_2 (List.mem_of_getElem? (i := 3) rfl))) (hk 13 (by decide))
  · exact vk_R.of (hts _ (tl_3_2 (List.mem_of_getElem? (i := 10) rfl))) (hk 14 (by decide))
  · exact vk_R.of (hts _ (tl_3_5 (List.mem_of_getElem? (i := 5) rfl))) (hk 15 (by decide))
  · exact vk_R.of (hts _ (tl_3_5 (List.mem_of_getElem? (i := 7) rfl))) (hk 16 (by decide))
  · exact vk_R.of (hts _ (tl_3_6 (List.mem_of_getElem? (i := 1) rfl))) (hk 17 (by decide))
  · exact vk_R.of (hts _ (tl_3_6 (List.mem_of_getElem? (i := 4) rfl))) (hk 18 (by decide))
  · exact vk_R.of (hts _ (tl_3_7 (List.mem_of_getElem? (i := 5) rfl))) (hk 19 (by decide))
  · exact vk_R.of (hts _ (tl_3_7 (List.mem_of_getElem? (i := 6) rfl))) (hk 20 (by decide))
  · exact vk_R.of (hts _ (tl_3_8 (List.mem_of_getElem? (i := 14) rfl))) (hk 21 (by decide))
  · exact vk_R.of (hts _ (tl_3_9 (List.mem_of_getElem? (i := 14) rfl))) (hk 22 (by decide))
  · exact vk_R.of (hts _ (tl_3_10 (List.mem_of_getElem? (i := 3) rfl))) (hk 23 (by decide))
  · exact vk_R.of (hts _ (tl_3_10 (List.mem_of_getElem? (i := 4) rfl))) (hk 24 (by decide))
  · exact vk_R.of (hts _ (tl_3_10 (List.mem_of_getElem? (i := 5) rfl))) (hk 25 (by decide))
  · exact vk_R.of (hts _ (tl_3_10 (List.mem_of_getElem? (i := 6) rfl))) (hk 26 (by decide))
  · exact vk_R.of (hts _ (tl_3_10 (List.mem_of_getElem? (i := 11) rfl))) (hk 27 (by decide))
  · exact vk_R.of (hts _ (tl_3_10 (List.mem_of_getElem? (i := 12) rfl))) (hk 28 (by decide))
  · exact vk_R.of (hts _ (tl_3_10 (List.mem_of_getElem? (i := 13) rfl))) (hk 29 (by decide))
  · exact vk_R.of (hts _ (tl_3_10 (List.mem_of_getElem? (i := 14) rfl))) (hk 30 (by decide))
  · exact vk_R.of (hts _ (tl_3_10 (List.mem_of_getElem? (i := 15) rfl))) (hk 31 (by decide))
  · exact vk_R.of (hts _ (tl_3_12 (List.mem_of_getElem? (i := 2) rfl))) (hk 32 (by decide))
  · exact vk_R.of (hts _ (tl_3_13 (List.mem_of_getElem? (i := 5) rfl))) (hk 33 (by decide))
  · exact vk_R.of (hts _ (tl_3_14 (List.mem_of_getElem? (i := 8) rfl))) (hk 34 (by decide))
  · exact vk_R.of (hts _ (tl_5_8 (List.mem_of_getElem? (i := 10) rfl))) (hk 35 (by decide))
  · exact vk_R.of (hts _ (tl_5_8 (List.mem_of_getElem? (i := 11) rfl))) (hk 36 (by decide))
  · exact vk_R.of (hts _ (tl_5_8 (List.mem_of_getElem? (i := 12) rfl))) (hk 37 (by decide))
  · exact vk_R.of (hts _ (tl_5_8 (List.mem_of_getElem? (i := 13) rfl))) (hk 38 (by decide))
  · exact vk_R.of (hts _ (tl_5_8 (List.mem_of_getElem? (i := 14) rfl))) (hk 39 (by decide))
  · exact vk_R.of (hts _ (tl_5_8 (List.mem_of_getElem? (i := 15) rfl))) (hk 40 (by decide))
  · exact vk_R.of (hts _ (tl_5_9 (List.mem_of_getElem? (i := 0) rfl))) (hk 41 (by decide))
def ne_t (i : Nat) : Term := .static "PlainOrigin$Method" (x_mnm i) "LPlainOrigin$Method;"
theorem xs_enum {s : State} {args : Array Value} (hts : ∀ w ∈ lw_tbl, w.before args s = true) (hq : ∀ w ∈ flatC (Jvm.Cond.and given_1 narrow_1), w.before args s = true) {A : Nat → Prop} (hA : ∀ a : Nat, a < s.heap.size → ¬ A a) {adK : Nat → Nat} (hk : ∀ i, i < 42 → (nw_t i).eval args s none [] s = some (.ref (adK i))) : ∃ adE : Nat → Nat, (∀ i, i < 7 → (ne_t i).eval args s none [] s = some (.ref (adE i)) ∧ va_Z "PlainOrigin$Method" (x_mnm i) "LPlainOrigin$Method;" (.ref (adE i)) A s s.heap ∧ va_OF "PlainOrigin$Method" "word" "Ljava/lang/String;" (.ref (adK (x_mword i))) (adE i) A s s.heap) ∧ ∀ i j, i < 7 → j < 7 → adE i = adE j → i = j := by
  have hini : (Cond.initialized "PlainOrigin$Method").before args s = true := xs_uw hts _ mw_83
  have one : ∀ (i : Nat) (k : Nat), (Cond.exactly (ne_t i) "PlainOrigin$Method").before args s = true → (Cond.laysStatic "PlainOrigin$Method" (x_mnm i) "LPlainOrigin$Method;").before args s = true → (Cond.eq (.field (ne_t i) "PlainOrigin$Method" "word" "Ljava/lang/String;") (nw_t k)).before args s = true → k < 42 → x_mword i = k → ∃ a : Nat, (ne_t i).eval args s none [] s = some (.ref a) ∧ va_Z "PlainOrigin$Method" (x_mnm i) "LPlainOrigin$Method;" (.ref a) A s s.heap ∧ va_OF "PlainOrigin$Method" "word" "Ljava/lang/String;" (.ref (adK (x_mword i))) a A s s.heap := by
    intro i k h1 h2 h3 hk1 e
    obtain ⟨a, c, cA, kA, q1, q2, q3, q4, q5, q6, -⟩ := Cond.exactly_spec (args := args) (first := s) (o := none) (s := s) (idx := []) (t := ne_t i) (cls := "PlainOrigin$Method") h1
    rw [e]
    exact ⟨a, q1, va_Zref h2 hini q1 hA, vk_OFof q1 (va_eqv h3 (hk k hk1)) hA⟩
  obtain ⟨a0, u0, v0, w0⟩ := one 0 37 (hq _ (nm_1 (List.mem_of_getElem? (i := 14) rfl))) (hts _ (tl_3_3 (List.mem_of_getElem? (i := 7) rfl))) (hq _ (nm_2 (List.mem_of_getElem? (i := 0) rfl))) (by decide) rfl
  obtain ⟨a1, u1, v1, w1⟩ := one 1 38 (hq _ (nm_2 (List.mem_of_getElem? (i := 3) rfl))) (hts _ (tl_3_3 (List.mem_of_getElem? (i := 9) rfl))) (hq _ (nm_2 (List.mem_of_getElem? (i := 5) rfl))) (by decide) rfl
  obtain ⟨a2, u2, v2, w2⟩ := one 2 39 (hq _ (nm_2 (List.mem_of_getElem? (i := 9) rfl))) (hts _ (tl_3_6 (List.mem_of_getElem? (i := 15) rfl))) (hq _ (nm_2 (List.mem_of_getElem? (i := 11) rfl))) (by decide) rfl
  obtain ⟨a3, u3, v3, w3⟩ := one 3 40 (hq _ (nm_3 (List.mem_of_getElem? (i := 0) rfl))) (hts _ (tl_3_7 (List.mem_of_getElem? (i := 11) rfl))) (hq _ (nm_3 (List.mem_of_getElem? (i := 2) rfl))) (by decide) rfl
  obtain ⟨a4, u4, v4, w4⟩ := one 4 41 (hq _ (nm_3 (List.mem_of_getElem? (i := 8) rfl))) (hts _ (tl_5_8 (List.mem_of_getElem? (i := 9) rfl))) (hq _ (nm_3 (List.mem_of_getElem? (i := 10) rfl))) (by decide) rfl
  obtain ⟨a5, u5, v5, w5⟩ := one 5 35 (hq _ (nm_1 (List.mem_of_getElem? (i := 7) rfl))) (hts _ (tl_2_9 (List.mem_of_getElem? (i := 2) rfl))) (hq _ (nm_1 (List.mem_of_getElem? (i := 9) rfl))) (by decide) rfl
  obtain ⟨a6, u6, v6, w6⟩ := one 6 36 (hq _ (nm_1 (List.mem_of_getElem? (i := 10) rfl))) (hts _ (tl_3_3 (List.mem_of_getElem? (i := 1) rfl))) (hq _ (nm_1 (List.mem_of_getElem? (i := 12) rfl))) (by decide) rfl
  refine ⟨fun i => [a0, a1, a2, a3, a4, a5, a6].getD i 0, fun i hi => ?_, fun i j hi hj e => ?_⟩
  · match i, hi with
    | 0, _ => exact ⟨u0, v0, w0⟩
    | 1, _ => exact ⟨u1, v1, w1⟩
    | 2, _ => exact ⟨u2, v2, w2⟩
    | 3, _ => exact ⟨u3, v3, w3⟩
    | 4, _ => exact ⟨u4, v4, w4⟩
    | 5, _ => exact ⟨u5, v5, w5⟩
    | 6, _ => exact ⟨u6, v6, w6⟩
  · have z10 : a1 ≠ a0 := fun q => va_neR (hq _ (nm_2 (List.mem_of_getElem? (i := 8) rfl))) u0 u1 q.symm
    have z20 : a2 ≠ a0 := fun q => va_neR (hq _ (nm_2 (List.mem_of_getElem? (i := 14) rfl))) u0 u2 q.symm
    have z21 : a2 ≠ a1 := fun q => va_neR (hq _ (nm_2 (List.mem_of_getElem? (i := 15) rfl))) u1 u2 q.symm
    have z30 : a3 ≠ a0 := fun q => va_neR (hq _ (nm_3 (List.mem_of_getElem? (i := 5) rfl))) u0 u3 q.symm
    have z31 : a3 ≠ a1 := fun q => va_neR (hq _ (nm_3 (List.mem_of_getElem? (i := 6) rfl))) u1 u3 q.symm
    have z32 : a3 ≠ a2 := fun q => va_neR (hq _ (nm_3 (List.mem_of_getElem? (i := 7) rfl))) u2 u3 q.symm
    have z40 : a4 ≠ a0 := fun q => va_neR (hq _ (nm_3 (List.mem_of_getElem? (i := 13) rfl))) u0 u4 q.symm
    have z41 : a4 ≠ a1 := fun q => va_neR (hq _ (nm_3 (List.mem_of_getElem? (i := 14) rfl))) u1 u4 q.symm
    have z42 : a4 ≠ a2 := fun q => va_neR (hq _ (nm_3 (List.mem_of_getElem? (i := 15) rfl))) u2 u4 q.symm
    have z43 : a4 ≠ a3 := fun q => va_neR (hq _ (nm_4 (List.mem_of_getElem? (i := 0) rfl))) u3 u4 q.symm
    have z50 : a5 ≠ a0 := va_neR (hq _ (nm_2 (List.mem_of_getElem? (i := 1) rfl))) u5 u0
    have z51 : a5 ≠ a1 := va_neR (hq _ (nm_2 (List.mem_of_getElem? (i := 6) rfl))) u5 u1
    have z52 : a5 ≠ a2 := va_neR (hq _ (nm_2 (List.mem_of_getElem? (i := 12) rfl))) u5 u2
    have z53 : a5 ≠ a3 := va_neR (hq _ (nm_3 (List.mem_of_getElem? (i := 3) rfl))) u5 u3
    have z54 : a5 ≠ a4 := va_neR (hq _ (nm_3 (List.mem_of_getElem? (i := 11) rfl))) u5 u4
    have z60 : a6 ≠ a0 := va_neR (hq _ (nm_2 (List.mem_of_getElem? (i := 2) rfl))) u6 u0
    have z61 : a6 ≠ a1 := va_neR (hq _ (nm_2 (List.mem_of_getElem? (i := 7) rfl))) u6 u1
    have z62 : a6 ≠ a2 := va_neR (hq _ (nm_2 (List.mem_of_getElem? (i := 13) rfl))) u6 u2
    have z63 : a6 ≠ a3 := va_neR (hq _ (nm_3 (List.mem_of_getElem? (i := 4) rfl))) u6 u3
    have z64 : a6 ≠ a4 := va_neR (hq _ (nm_3 (List.mem_of_getElem? (i := 12) rfl))) u6 u4
    have z65 : a6 ≠ a5 := fun q => va_neR (hq _ (nm_1 (List.mem_of_getElem? (i := 13) rfl))) u5 u6 q.symm
    match i, j, hi, hj with
    | 0, 0, _, _ => rfl
    | 0, 1, _, _ => exact absurd e.symm z10
    | 0, 2, _, _ => exact absurd e.symm z20
    | 0, 3, _, _ => exact absurd e.symm z30
    | 0, 4, _, _ => exact absurd e.symm z40
    | 0, 5, _, _ => exact absurd e.symm z50
    | 0, 6, _, _ => exact absurd e.symm z60
    | 1, 0, _, _ => exact absurd e z10
    | 1, 1, _, _ => rfl
    | 1, 2, _, _ => exact absurd e.symm z21
    | 1, 3, _, _ => exact absurd e.symm z31
    | 1, 4, _, _ => exact absurd e.symm z41
    | 1, 5, _, _ => exact absurd e.symm z51
    | 1, 6, _, _ => exact absurd e.symm z61
    | 2, 0, _, _ => exact absurd e z20
    | 2, 1, _, _ => exact absurd e z21
    | 2, 2, _, _ => rfl
    | 2, 3, _, _ => exact absurd e.symm z32
    | 2, 4, _, _ => exact absurd e.symm z42
    | 2, 5, _, _ => exact absurd e.symm z52
    | 2, 6, _, _ => exact absurd e.symm z62
    | 3, 0, _, _ => exact absurd e z30
    | 3, 1, _, _ => exact absurd e z31
    | 3, 2, _, _ => exact absurd e z32
    | 3, 3, _, _ => rfl
    | 3, 4, _, _ => exact absurd e.symm z43
    | 3, 5, _, _ => exact absurd e.symm z53
    | 3, 6, _, _ => exact absurd e.symm z63
    | 4, 0, _, _ => exact absurd e z40
    | 4, 1, _, _ => exact absurd e z41
    | 4, 2, _, _ => exact absurd e z42
    | 4, 3, _, _ => exact absurd e z43
    | 4, 4, _, _ => rfl
    | 4, 5, _, _ => exact absurd e.symm z54
    | 4, 6, _, _ => exact absurd e.symm z64
    | 5, 0, _, _ => exact absurd e z50
    | 5, 1, _, _ => exact absurd e z51
    | 5, 2, _, _ => exact absurd e z52
    | 5, 3, _, _ => exact absurd e z53
    | 5, 4, _, _ => exact absurd e z54
    | 5, 5, _, _ => rfl
    | 5, 6, _, _ => exact absurd e.symm z65
    | 6, 0, _, _ => exact absurd e z60
    | 6, 1, _, _ => exact absurd e z61
    | 6, 2, _, _ => exact absurd e z62
    | 6, 3, _, _ => exact absurd e z63
    | 6, 4, _, _ => exact absurd e z64
    | 6, 5, _, _ => exact absurd e z65
    | 6, 6, _, _ => rfl
theorem xs_meths {s : State} {args : Array Value} (hts : ∀ w ∈ lw_tbl, w.before args s = true) (hq : ∀ w ∈ flatC (Jvm.Cond.and given_1 narrow_1), w.before args s = true) {A : Nat → Prop} (hA : ∀ a : Nat, a < s.heap.size → ¬ A a) {adE : Nat → Nat} (hk : ∀ i, i < 7 → (ne_t i).eval args s none [] s = some (.ref (adE i))) : ∃ t : Nat, va_Z "PlainOrigin" "METHODS" "[LPlainOrigin$Method;" (.ref t) A s s.heap ∧ va_T (.object "PlainOrigin$Method") t 7 (fun j => .ref (adE j)) A s s.heap := by
  have hel : ∀ j : Nat, j < 7 → (Term.elem (.static "PlainOrigin" "METHODS" "[LPlainOrigin$Method;") (.int (Int32.ofNat j))).eval args s none [] s = some (.ref (adE j)) := by
    intro j hj
    match j, hj with
    | 0, _ => exact va_eqv (hq _ (nm_1 (List.mem_of_getElem? (i := 0) rfl))) (hk 0 (by decide))
    | 1, _ => exact va_eqv (hq _ (nm_1 (List.mem_of_getElem? (i := 1) rfl))) (hk 1 (by decide))
    | 2, _ => exact va_eqv (hq _ (nm_1 (List.mem_of_getElem? (i := 2) rfl))) (hk 2 (by decide))
    | 3, _ => exact va_eqv (hq _ (nm_1 (List.mem_of_getElem? (i := 3) rfl))) (hk 3 (by decide))
    | 4, _ => exact va_eqv (hq _ (nm_1 (List.mem_of_getElem? (i := 4) rfl))) (hk 4 (by decide))
    | 5, _ => exact va_eqv (hq _ (nm_1 (List.mem_of_getElem? (i := 5) rfl))) (hk 5 (by decide))
    | 6, _ => exact va_eqv (hq _ (nm_1 (List.mem_of_getElem? (i := 6) rfl))) (hk 6 (by decide))
  obtain ⟨t, ht, hT⟩ := va_Tof (N := 7) (f := fun j => .ref (adE j)) (A := A) (by decide) (hq _ (nm_0 (List.mem_of_getElem? (i := 13) rfl))) (va_eqt (hq _ (nm_0 (List.mem_of_getElem? (i := 14) rfl)))) hel hA
  exact ⟨t, va_Zref (hts _ (tl_2_8 (List.mem_of_getElem? (i := 15) rfl))) (xs_uw hts _ mw_60) ht hA, hT⟩
theorem xs_K {s : State} {args : Array Value} (hts : ∀ w ∈ lw_tbl, w.before args s = true) : ∃ D : va_G, ∀ (c : Nat) (q : vw_C), xCl[c]? = some q → u_Kn s q.1 q.2.1 q.2.2 (D.1 c) (D.2 c) := by
  have hu := xs_uw hts
  obtain ⟨c0, i0, k0⟩ := u_known (T := T_Bytes) (N := 2) hu fi_Bytes (hu _ mw_108)
  obtain ⟨c1, i1, k1⟩ := u_known (T := T_Fields) (N := 9) hu fi_Fields (hu _ mw_166)
  obtain ⟨c2, i2, k2⟩ := u_known (T := T_Request) (N := 9) hu fi_Request (hu _ mw_160)
  obtain ⟨c3, i3, k3⟩ := u_known (T := T_Reader) (N := 6) hu fi_Reader (hu _ mw_152)
  obtain ⟨c4, i4, k4⟩ := u_known (T := T_Resource) (N := 2) hu fi_Resource (hu _ mw_102)
  obtain ⟨c5, i5, k5⟩ := u_known (T := T_Site) (N := 2) hu fi_Site (hu _ mw_95)
  obtain ⟨c6, i6, k6⟩ := u_known (T := T_Range) (N := 2) hu fi_Range (hu _ mw_276)
  obtain ⟨c7, i7, k7⟩ := u_known (T := T_Answer) (N := 12) hu fi_Answer (hu _ mw_270)
  obtain ⟨c8, i8, k8⟩ := u_known (T := T_Outbox) (N := 2) hu fi_Outbox (hu _ mw_341)
  obtain ⟨c9, i9, k9⟩ := u_known (T := T_PlainOrigin) (N := 5) hu fi_PlainOrigin (hu _ mw_87)
  obtain ⟨c10, i10, k10⟩ := u_known (T := T_Model) (N := 33) hu fi_Model (hu _ mw_1026)
  refine ⟨(fun c => [c0, c1, c2, c3, c4, c5, c6, c7, c8, c9, c10].getD c 0, fun c => [i0, i1, i2, i3, i4, i5, i6, i7, i8, i9, i10].getD c (fun _ => 0)), fun c q hq => ?_⟩
  match c, hq with
  | 0, hq => cases hq; exact k0
  | 1, hq => cases hq; exact k1
  | 2, hq => cases hq; exact k2
  | 3, hq => cases hq; exact k3
  | 4, hq => cases hq; exact k4
  | 5, hq => cases hq; exact k5
  | 6, hq => cases hq; exact k6
  | 7, hq => cases hq; exact k7
  | 8, hq => cases hq; exact k8
  | 9, hq => cases hq; exact k9
  | 10, hq => cases hq; exact k10
  | n + 11, hq => cases hq
theorem xs_arr {s : State} {args : Array Value} {ty : FieldType} (h : (Cond.arrayClass ty).before args s = true) : ∃ cA : ClassId, ArrOfT s cA ty ∧ s.vm.findClass ("[" ++ ty.toString) = some cA := by
  obtain ⟨cA, kA, comp, h1, h2, h3⟩ := Cond.arrayClass_spec h
  exact ⟨cA, fun n z => ⟨fun k h => (by cases h), kA, h2, comp, h3⟩, h1⟩
theorem xs_ao {s : State} (h : va_AO "PlainOrigin$Resource" s) : ∃ cA : ClassId, ArrOfT s cA (.object "PlainOrigin$Resource") ∧ va_RA s cA (.object "PlainOrigin$Resource") := by
  obtain ⟨comp, c, k, h1, h2, h3, h4, h5⟩ := Cond.arrayOver_spec h
  exact ⟨c, fun n z => ⟨fun k h => (by cases h), k, h3, comp, h4⟩, k, comp, h3, h4, h1, h5⟩
theorem xs_fm {s : State} {args : Array Value} (hts : ∀ w ∈ lw_tbl, w.before args s = true) (hq : ∀ w ∈ flatC (Jvm.Cond.and given_1 narrow_1), w.before args s = true) {A : Nat → Prop} (hA : ∀ a : Nat, a < s.heap.size → ¬ A a) : ∃ f n : Nat, va_Z "jdk/internal/util/Preconditions" "SIOOBE_FORMATTER" "Ljava/util/function/BiFunction;" (va_rf (if n = 0 then none else some f)) A s s.heap := by
  rcases va_Zqof (hts _ (tl_2_4 (List.mem_of_getElem? (i := 6) rfl))) (xs_uw hts _ mw_80) (hq _ (nm_0 (List.mem_of_getElem? (i := 7) rfl))) hA with h | ⟨t, h⟩
  · exact ⟨0, 0, h⟩
  · exact ⟨t, 1, h⟩
theorem xs_gw {s : State} {args : Array Value} (hts : ∀ w ∈ lw_tbl, w.before args s = true) : gw s := by
  constructor
  · intro q hq
    simp only [gw_F, List.mem_cons, List.not_mem_nil, or_false] at hq
    rcases hq with rfl | rfl | rfl | rfl | rfl | rfl | rfl | rfl | rfl | rfl | rfl | rfl | rfl | rfl | rfl | rfl | rfl | rfl | rfl | rfl | rfl | rfl | rfl | rfl | rfl | rfl | rfl | rfl | rfl | rfl | rfl | rfl | rfl | rfl | rfl | rfl | rfl | rfl | rfl | rfl | rfl | rfl | rfl | rfl | rfl | rfl | rfl | rfl | rfl | rfl | rfl | rfl | rfl
    · exact va_Nw.of rfl (hts _ (tl_0_3 (List.mem_of_getElem? (i := 8) rfl)))
    · exact va_Nw.of rfl (hts _ (tl_0_3 (List.mem_of_getElem? (i := 9) rfl)))
    · exact va_Nw.of rfl (hts _ (tl_0_3 (List.mem_of_getElem? (i := 10) rfl)))
    · exact va_Nw.of rfl (hts _ (tl_0_3 (List.mem_of_getElem? (i := 11) rfl)))
    · exact va_Nw.of rfl (hts _ (tl_0_3 (List.mem_of_getElem? (i := 12) rfl)))
    · exact va_Nw.of rfl (hts _ (tl_0_3 (List.mem_of_getElem? (i := 13) rfl)))
    · exact va_Nw.of rfl (hts _ (tl_0_3 (List.mem_of_getElem? (i := 14) rfl)))
    · exact va_Nw.of rfl (hts _ (tl_0_4 (List.mem_of_getElem? (i := 6) rfl)))
    · exact va_Nw.of rfl (hts _ (tl_0_4 (List.mem_of_getElem? (i := 7) rfl)))
    · exact va_Nw.of rfl (hts _ (tl_0_4 (List.mem_of_getElem? (i := 8) rfl)))
    · exact va_Nw.of rfl (hts _ (tl_0_4 (List.mem_of_getElem? (i := 10) rfl)))
    · exact va_Nw.of rfl (hts _ (tl_0_4 (List.mem_of_getElem? (i := 11) rfl)))
    · exact va_Nw.of rfl (hts _ (tl_0_4 (List.mem_of_getElem? (i := 12) rfl)))
    · exact va_Nw.of rfl (hts _ (tl_0_5 (List.mem_of_getElem? (i := 3) rfl)))
    · exact va_Nw.of rfl (hts _ (tl_0_5 (List.mem_of_getElem? (i := 4) rfl)))
    · exact va_Nw.of rfl (hts _ (tl_0_5 (List.mem_of_getElem? (i := 6) rfl)))
    · exact va_Nw.of rfl (hts _ (tl_0_7 (List.mem_of_getElem? (i := 3) rfl)))
    · exact va_Nw.of rfl (hts _ (tl_0_7 (List.mem_of_getElem? (i := 4) rfl)))
    · exact va_Nw.of rfl (hts _ (tl_0_7 (List.mem_of_getElem? (i := 8) rfl)))
    · exact va_Nw.of rfl (hts _ (tl_0_7 (List.mem_of_getElem? (i := 9) rfl)))
    · exact va_Nw.of rfl (hts _ (tl_0_7 (List.mem_of_getElem? (i := 11) rfl)))
    · exact va_Nw.of rfl (hts _ (tl_0_7 (List.mem_of_getElem? (i := 12) rfl)))
    · exact va_Nw.of rfl (hts _ (tl_0_9 (List.mem_of_getElem? (i := 7) rfl)))
    · exact va_Nw.of rfl (hts _ (tl_0_9 (List.mem_of_getElem? (i := 8) rfl)))
    · exact va_Nw.of rfl (hts _ (tl_0_9 (List.mem_of_getElem? (i := 9) rfl)))
    · exact va_Nw.of rfl (hts _ (tl_0_9 (List.mem_of_getElem? (i := 11) rfl)))
    · exact va_Nw.of rfl (hts _ (tl_0_9 (List.mem_of_getElem? (i := 13) rfl)))
    · exact va_Nw.of rfl (hts _ (tl_0_9 (List.mem_of_getElem? (i := 14) rfl)))
    · exact va_Nw.of rfl (hts _ (tl_0_10 (List.mem_of_getElem? (i := 0) rfl)))
    · exact va_Nw.of rfl (hts _ (tl_0_10 (List.mem_of_getElem? (i := 3) rfl)))
    · exact va_Nw.of rfl (hts _ (tl_0_10 (List.mem_of_getElem? (i := 5) rfl)))
    · exact va_Nw.of rfl (hts _ (tl_0_10 (List.mem_of_getElem? (i := 7) rfl)))
    · exact va_Nw.of rfl (hts _ (tl_0_10 (List.mem_of_getElem? (i := 9) rfl)))
    · exact va_Nw.of rfl (hts _ (tl_0_11 (List.mem_of_getElem? (i := 15) rfl)))
    · exact va_Nw.of rfl (hts _ (tl_0_12 (List.mem_of_getElem? (i := 1) rfl)))
    · exact va_Nw.of rfl (hts _ (tl_0_13 (List.mem_of_getElem? (i := 15) rfl)))
    · exact va_Nw.of rfl (hts _ (tl_0_14 (List.mem_of_getElem? (i := 1) rfl)))
    · exact va_Nw.of rfl (hts _ (tl_0_14 (List.mem_of_getElem? (i := 12) rfl)))
    · exact va_Nw.of rfl (hts _ (tl_0_14 (List.mem_of_getElem? (i := 13) rfl)))
    · exact va_Nw.of rfl (hts _ (tl_0_14 (List.mem_of_getElem? (i := 15) rfl)))
    · exact va_Nw.of rfl (hts _ (tl_1_0 (List.mem_of_getElem? (i := 1) rfl)))
    · exact va_Nw.of rfl (hts _ (tl_1_0 (List.mem_of_getElem? (i := 2) rfl)))
    · exact va_Nw.of rfl (hts _ (tl_1_0 (List.mem_of_getElem? (i := 3) rfl)))
    · exact va_Nw.of rfl (hts _ (tl_1_0 (List.mem_of_getElem? (i := 4) rfl)))
    · exact va_Nw.of rfl (hts _ (tl_1_0 (List.mem_of_getElem? (i := 5) rfl)))
    · exact va_Nw.of rfl (hts _ (tl_1_0 (List.mem_of_getElem? (i := 7) rfl)))
    · exact va_Nw.of rfl (hts _ (tl_1_0 (List.mem_of_getElem? (i := 9) rfl)))
    · exact va_Nw.of rfl (hts _ (tl_1_0 (List.mem_of_getElem? (i := 11) rfl)))
    · exact va_Nw.of rfl (hts _ (tl_1_0 (List.mem_of_getElem? (i := 13) rfl)))
    · exact va_Nw.of rfl (hts _ (tl_1_0 (List.mem_of_getElem? (i := 15) rfl)))
    · exact va_Nw.of rfl (hts _ (tl_1_3 (List.mem_of_getElem? (i := 2) rfl)))
    · exact va_Nw.of rfl (hts _ (tl_1_3 (List.mem_of_getElem? (i := 4) rfl)))
    · exact va_Nw.of rfl (hts _ (tl_2_8 (List.mem_of_getElem? (i := 14) rfl)))
  · intro q hq
    simp only [gw_M, List.mem_cons, List.not_mem_nil, or_false] at hq
    subst hq
    exact va_Nw.of rfl (hts _ (tl_0_13 (List.mem_of_getElem? (i := 10) rfl)))
theorem xs_th {s : State} {args : Array Value} (hts : ∀ w ∈ lw_tbl, w.before args s = true) (hq : ∀ w ∈ flatC (Jvm.Cond.and given_1 narrow_1), w.before args s = true) {A : Nat → Prop} (hA : ∀ a : Nat, a < s.heap.size → ¬ A a) : xTh A s s.heap := by
  refine ⟨fun X hX => ?_, fun q hq1 => ?_, fun y hy => ?_⟩
  · simp only [xthX, List.mem_cons, List.not_mem_nil, or_false] at hX
    rcases hX with rfl | rfl | rfl
    · exact va_Nw.of rfl (hts _ (tl_1_8 (List.mem_of_getElem? (i := 7) rfl)))
    · exact va_Nw.of rfl (hts _ (tl_3_11 (List.mem_of_getElem? (i := 11) rfl)))
    · exact va_Nw.of rfl (hts _ (tl_3_14 (List.mem_of_getElem? (i := 1) rfl)))
  · simp only [xthS, List.mem_cons, List.not_mem_nil, or_false] at hq1
    rcases hq1 with rfl | rfl
    · exact ⟨xLS.of (hts _ (tl_1_10 (List.mem_of_getElem? (i := 0) rfl))) hA, va_Zqof (hts _ (tl_1_10 (List.mem_of_getElem? (i := 0) rfl))) (xs_uw hts _ mw_71) (hq _ (nm_0 (List.mem_of_getElem? (i := 4) rfl))) hA⟩
    · exact ⟨xLS.of (hts _ (tl_1_10 (List.mem_of_getElem? (i := 2) rfl))) hA, va_Zqof (hts _ (tl_1_10 (List.mem_of_getElem? (i := 2) rfl))) (xs_uw hts _ mw_71) (hq _ (nm_0 (List.mem_of_getElem? (i := 5) rfl))) hA⟩
  · simp only [xthD, List.mem_cons, List.not_mem_nil, or_false] at hy
    rcases hy with rfl | rfl | rfl
    · exact va_Nw.of rfl (hts _ (tl_1_8 (List.mem_of_getElem? (i := 9) rfl)))
    · exact va_Nw.of rfl (hts _ (tl_1_8 (List.mem_of_getElem? (i := 11) rfl)))
    · exact va_Nw.of rfl (hts _ (tl_1_8 (List.mem_of_getElem? (i := 13) rfl)))
theorem xs_all {s : State} {args : Array Value} (hts : ∀ w ∈ lw_tbl, w.before args s = true) (hq : ∀ w ∈ flatC (Jvm.Cond.and given_1 narrow_1), w.before args s = true) : ∃ G : xG, (∀ k, G.2.1 k = s.heap.size + k) ∧ xC G s ∧ xCk G s ∧ xTh (xA G) s s.heap ∧ xNc s := by
  have hu := xs_uw hts
  have hao : va_AO "PlainOrigin$Resource" s := va_AO.of (hts _ (tl_0_2 (List.mem_of_getElem? (i := 10) rfl)))
  let A : Nat → Prop := fun q => s.heap.size ≤ q
  have hA : ∀ a : Nat, a < s.heap.size → ¬ A a := fun a h1 h2 => absurd h1 (Nat.not_lt.mpr h2)
  obtain ⟨D, hD⟩ := xs_K hts
  obtain ⟨cI, hI1, hI2⟩ := xs_arr (hu _ mw_127)
  obtain ⟨cZ, hZ1, hZ2⟩ := xs_arr (hu _ mw_1169)
  obtain ⟨cJ, hJ1, hJ2⟩ := xs_arr (hu _ mw_1168)
  obtain ⟨cR, hR1, hR2⟩ := xs_ao hao
  obtain ⟨adK, adV, hstr⟩ := xs_str hq hA
  obtain ⟨adE, hen, hinj⟩ := xs_enum hts hq hA (fun i hi => (hstr i hi).1)
  obtain ⟨tM, hM1, hM2⟩ := xs_meths hts hq hA (fun i hi => (hen i hi).1)
  obtain ⟨fm, nf, hfm⟩ := xs_fm hts hq hA
  refine ⟨(D, (fun k => s.heap.size + k), (fun i => [cI, cZ, cJ, cR].getD i 0), adK, adE, fun i => if i = 1000 then tM else if i = 1001 then nf else if i = 1002 then fm else adV i), fun k => rfl, ?_⟩
  generalize hG : ((D, (fun k => s.heap.size + k), (fun i => [cI, cZ, cJ, cR].getD i 0), adK, adE, fun i => if i = 1000 then tM else if i = 1001 then nf else if i = 1002 then fm else adV i) : xG) = G
  have hadr : xAdr G := by
    subst hG
    intro k
    rfl
  have hsub : ∀ q, xA G q → A q := by
    subst hG
    intro q h
    obtain ⟨k, -, rfl⟩ := h
    exact Nat.le_add_right _ _
  have hK : va_K G.1 xCl (x_tys G) s := by
    subst hG
    refine ⟨hD, fun k q hk => ?_⟩
    match k, hk with
    | 0, hk => cases hk; exact ⟨hI1, hI2⟩
    | 1, hk => cases hk; exact ⟨hZ1, hZ2⟩
    | 2, hk => cases hk; exact ⟨hJ1, hJ2⟩
    | 3, hk => cases hk; exact ⟨hR1, hR2⟩
    | n + 4, hk => cases hk
  have hKn : xKn G s := by
    have h1 : xKh G A s s.heap := by
      subst hG
      refine ⟨fun i hi => ?_, ?_, ?_, ?_, ?_, hinj, hM1, hM2⟩
      · have hi2 : i < 42 := hi
        obtain ⟨-, q1, q2, q3, q4⟩ := hstr i hi2
        refine ⟨q1, q2, ?_, ?_⟩
        · show va_OF _ _ _ (.ref (if i = 1000 then tM else if i = 1001 then nf else if i = 1002 then fm else adV i)) _ _ _ _
          rw [if_neg (by omega), if_neg (by omega), if_neg (by omega)]
          exact q3
        · show va_T _ (if i = 1000 then tM else if i = 1001 then nf else if i = 1002 then fm else adV i) _ _ _ _ _
          rw [if_neg (by omega), if_neg (by omega), if_neg (by omega)]
          exact q4
      · exact va_Zof (hts _ (tl_2_1 (List.mem_of_getElem? (i := 11) rfl))) (hu _ mw_76) (va_eqi (hq _ (nm_0 (List.mem_of_getElem? (i := 6) rfl)))) hA
      · exact hfm
      · exact xs_ref hts (fun i hi => (hstr i hi).1)
      · exact fun i hi => (hen i hi).2
    obtain ⟨g1, g2, g3, g4, g5, g6, g7, g8⟩ := h1
    exact ⟨fun i hi => ⟨(g1 i hi).1.narrow hsub, (g1 i hi).2.1.narrow hsub, (g1 i hi).2.2.1.narrow hsub, (g1 i hi).2.2.2.narrow hsub⟩, g2.narrow hsub, g3.narrow hsub, g4, fun i hi => ⟨(g5 i hi).1.narrow hsub, (g5 i hi).2.narrow hsub⟩, g6, g7.narrow hsub, g8.narrow hsub⟩
  have hA2 : ∀ a : Nat, a < s.heap.size → ¬ xA G a := fun a h1 h2 => hA a h1 (hsub a h2)
  exact ⟨⟨hK, hadr.inj, xs_gw hts, hKn⟩, ⟨hK, hadr, xs_gw hts, hao⟩, xs_th hts hq hA2, xNc.of (hq _ (nm_4 (List.mem_of_getElem? (i := 14) rfl)))⟩
