abbrev cX1_find : ByteArray := prog_3_method_3_code
def yX1_find : MethodName := ⟨RX1, "find", "(I)I"⟩
abbrev cX1_free : ByteArray := prog_3_method_4_code
def yX1_free : MethodName := ⟨RX1, "free", "()I"⟩
abbrev cX1_put : ByteArray := prog_3_method_5_code
def yX1_put : MethodName := ⟨RX1, "put", "(II)V"⟩
abbrev cX1_drop : ByteArray := prog_3_method_6_code
def yX1_drop : MethodName := ⟨RX1, "drop", "(I)V"⟩
abbrev cX1_lacks : ByteArray := prog_3_method_7_code
def yX1_lacks : MethodName := ⟨RX1, "lacks", "(III)Z"⟩
abbrev cX1_several : ByteArray := prog_3_method_9_code
def yX1_several : MethodName := ⟨RX1, "several", "(II)I"⟩
abbrev cX1_remove : ByteArray := prog_3_method_10_code
def yX1_remove : MethodName := ⟨RX1, "remove", "(I)Z"⟩
abbrev cX1_clear : ByteArray := prog_3_method_11_code
def yX1_clear : MethodName := ⟨RX1, "clear", "(II)I"⟩
abbrev cX1_carry : ByteArray := prog_3_method_12_code
def yX1_carry : MethodName := ⟨RX1, "carry", "(III)I"⟩
abbrev cX1_compare : ByteArray := prog_3_method_13_code
def yX1_compare : MethodName := ⟨RX1, "compare", "(II)I"⟩
abbrev cX1_next : ByteArray := prog_3_method_14_code
def yX1_next : MethodName := ⟨RX1, "next", "(IZ)I"⟩
abbrev cX1_has : ByteArray := prog_3_method_15_code
def yX1_has : MethodName := ⟨RX1, "has", "(I)Z"⟩
abbrev cX1_place : ByteArray := prog_3_method_16_code
def yX1_place : MethodName := ⟨RX1, "place", "(I)I"⟩
abbrev cX1_at : ByteArray := prog_3_method_17_code
def yX1_at : MethodName := ⟨RX1, "at", "(I)I"⟩
abbrev cX1_greatest : ByteArray := prog_3_method_18_code
def yX1_greatest : MethodName := ⟨RX1, "greatest", "(II)I"⟩
abbrev cX1_wipe : ByteArray := prog_3_method_19_code
def yX1_wipe : MethodName := ⟨RX1, "wipe", "()V"⟩
abbrev cX1_look : ByteArray := prog_3_method_20_code
def yX1_look : MethodName := ⟨RX1, "look", "(I)I"⟩
def wsX1_find : List Cond := .code yX1_find cX1_find 3 (some .int) :: ([.fieldLink RX1 13 "OrderLineModel" "many" "I", .fieldLink RX1 7 "OrderLineModel" "line" "[I"] ++ wsX10)
def wsX1_free : List Cond := .code yX1_free cX1_free 2 (some .int) :: ([.methodLink RX1 23 yX1_find, .instanceMethod yX1_find, .selects RX1 yX1_find yX1_find, .initialized RX1, .code yX1_find cX1_find 3 (some .int), .fieldLink RX1 13 "OrderLineModel" "many" "I", .fieldLink RX1 7 "OrderLineModel" "line" "[I"] ++ wsX10)
def wsX1_put : List Cond := .code yX1_put cX1_put 4 none :: ([.fieldLink RX1 13 "OrderLineModel" "many" "I", .fieldLink RX1 7 "OrderLineModel" "line" "[I"] ++ wsX10)
def wsX1_drop : List Cond := .code yX1_drop cX1_drop 3 none :: ([.fieldLink RX1 13 "OrderLineModel" "many" "I", .fieldLink RX1 7 "OrderLineModel" "line" "[I"] ++ wsX10)
def wsX1_lacks : List Cond := .code yX1_lacks cX1_lacks 4 (some .boolean) :: ([.fieldLink RX1 20 "OrderLineModel" "thrown" "I", .methodLink RX1 23 yX1_find, .instanceMethod yX1_find, .selects RX1 yX1_find yX1_find, .initialized RX1, .code yX1_find cX1_find 3 (some .int), .fieldLink RX1 13 "OrderLineModel" "many" "I", .fieldLink RX1 7 "OrderLineModel" "line" "[I"] ++ wsX10)
def wsX1_behind : List Cond := .code yX1_behind cX1_behind 3 (some .int) :: ([.methodLink RX1 27 yX1_lacks, .instanceMethod yX1_lacks, .selects RX1 yX1_lacks yX1_lacks, .initialized RX1, .code yX1_lacks cX1_lacks 4 (some .boolean), .fieldLink RX1 20 "OrderLineModel" "thrown" "I", .methodLink RX1 23 yX1_find, .instanceMethod yX1_find, .selects RX1 yX1_find yX1_find, .code yX1_find cX1_find 3 (some .int), .fieldLink RX1 13 "OrderLineModel" "many" "I", .fieldLink RX1 7 "OrderLineModel" "line" "[I", .methodLink RX1 31 yX1_free, .instanceMethod yX1_free, .selects RX1 yX1_free yX1_free, .code yX1_free cX1_free 2 (some .int), .methodLink RX1 35 yX1_put, .instanceMethod yX1_put, .selects RX1 yX1_put yX1_put, .code yX1_put cX1_put 4 none] ++ wsX10)
def wsX1_several : List Cond := .code yX1_several cX1_several 6 (some .int) :: ([.fieldLink RX1 13 "OrderLineModel" "many" "I", .methodLink RX1 27 yX1_lacks, .instanceMethod yX1_lacks, .selects RX1 yX1_lacks yX1_lacks, .initialized RX1, .code yX1_lacks cX1_lacks 4 (some .boolean), .fieldLink RX1 20 "OrderLineModel" "thrown" "I", .methodLink RX1 23 yX1_find, .instanceMethod yX1_find, .selects RX1 yX1_find yX1_find, .code yX1_find cX1_find 3 (some .int), .fieldLink RX1 7 "OrderLineModel" "line" "[I", .methodLink RX1 31 yX1_free, .instanceMethod yX1_free, .selects RX1 yX1_free yX1_free, .code yX1_free cX1_free 2 (some .int), .methodLink RX1 35 yX1_put, .instanceMethod yX1_put, .selects RX1 yX1_put yX1_put, .code yX1_put cX1_put 4 none] ++ wsX10)
def wsX1_remove : List Cond := .code yX1_remove cX1_remove 3 (some .boolean) :: ([.fieldLink RX1 20 "OrderLineModel" "thrown" "I", .methodLink RX1 23 yX1_find, .instanceMethod yX1_find, .selects RX1 yX1_find yX1_find, .initialized RX1, .code yX1_find cX1_find 3 (some .int), .fieldLink RX1 13 "OrderLineModel" "many" "I", .fieldLink RX1 7 "OrderLineModel" "line" "[I", .methodLink RX1 39 yX1_drop, .instanceMethod yX1_drop, .selects RX1 yX1_drop yX1_drop, .code yX1_drop cX1_drop 3 none] ++ wsX10)
def wsX1_clear : List Cond := .code yX1_clear cX1_clear 4 (some .int) :: ([.methodLink RX1 27 yX1_lacks, .instanceMethod yX1_lacks, .selects RX1 yX1_lacks yX1_lacks, .initialized RX1, .code yX1_lacks cX1_lacks 4 (some .boolean), .fieldLink RX1 20 "OrderLineModel" "thrown" "I", .methodLink RX1 23 yX1_find, .instanceMethod yX1_find, .selects RX1 yX1_find yX1_find, .code yX1_find cX1_find 3 (some .int), .fieldLink RX1 13 "OrderLineModel" "many" "I", .fieldLink RX1 7 "OrderLineModel" "line" "[I", .methodLink RX1 39 yX1_drop, .instanceMethod yX1_drop, .selects RX1 yX1_drop yX1_drop, .code yX1_drop cX1_drop 3 none] ++ wsX10)
def wsX1_carry : List Cond := .code yX1_carry cX1_carry 9 (some .int) :: ([.fieldLink RX1 17 "OrderLineModel" "aside" "[I", .fieldLink RX1 7 "OrderLineModel" "line" "[I", .methodLink RX1 27 yX1_lacks, .instanceMethod yX1_lacks, .selects RX1 yX1_lacks yX1_lacks, .initialized RX1, .code yX1_lacks cX1_lacks 4 (some .boolean), .fieldLink RX1 20 "OrderLineModel" "thrown" "I", .methodLink RX1 23 yX1_find, .instanceMethod yX1_find, .selects RX1 yX1_find yX1_find, .code yX1_find cX1_find 3 (some .int), .fieldLink RX1 13 "OrderLineModel" "many" "I", .methodLink RX1 39 yX1_drop, .instanceMethod yX1_drop, .selects RX1 yX1_drop yX1_drop, .code yX1_drop cX1_drop 3 none, .methodLink RX1 35 yX1_put, .instanceMethod yX1_put, .selects RX1 yX1_put yX1_put, .code yX1_put cX1_put 4 none] ++ wsX10)
def wsX1_compare : List Cond := .code yX1_compare cX1_compare 5 (some .int) :: ([.methodLink RX1 27 yX1_lacks, .instanceMethod yX1_lacks, .selects RX1 yX1_lacks yX1_lacks, .initialized RX1, .code yX1_lacks cX1_lacks 4 (some .boolean), .fieldLink RX1 20 "OrderLineModel" "thrown" "I", .methodLink RX1 23 yX1_find, .instanceMethod yX1_find, .selects RX1 yX1_find yX1_find, .code yX1_find cX1_find 3 (some .int), .fieldLink RX1 13 "OrderLineModel" "many" "I", .fieldLink RX1 7 "OrderLineModel" "line" "[I"] ++ wsX10)
def wsX1_next : List Cond := .code yX1_next cX1_next 4 (some .int) :: ([.fieldLink RX1 13 "OrderLineModel" "many" "I", .fieldLink RX1 7 "OrderLineModel" "line" "[I", .methodLink RX1 27 yX1_lacks, .instanceMethod yX1_lacks, .selects RX1 yX1_lacks yX1_lacks, .initialized RX1, .code yX1_lacks cX1_lacks 4 (some .boolean), .fieldLink RX1 20 "OrderLineModel" "thrown" "I", .methodLink RX1 23 yX1_find, .instanceMethod yX1_find, .selects RX1 yX1_find yX1_find, .code yX1_find cX1_find 3 (some .int)] ++ wsX10)
def wsX1_has : List Cond := .code yX1_has cX1_has 2 (some .boolean) :: ([.fieldLink RX1 20 "OrderLineModel" "thrown" "I", .methodLink RX1 23 yX1_find, .instanceMethod yX1_find, .selects RX1 yX1_find yX1_find, .initialized RX1, .code yX1_find cX1_find 3 (some .int), .fieldLink RX1 13 "OrderLineModel" "many" "I", .fieldLink RX1 7 "OrderLineModel" "line" "[I"] ++ wsX10)
def wsX1_place : List Cond := .code yX1_place cX1_place 2 (some .int) :: ([.methodLink RX1 27 yX1_lacks, .instanceMethod yX1_lacks, .selects RX1 yX1_lacks yX1_lacks, .initialized RX1, .code yX1_lacks cX1_lacks 4 (some .boolean), .fieldLink RX1 20 "OrderLineModel" "thrown" "I", .methodLink RX1 23 yX1_find, .instanceMethod yX1_find, .selects RX1 yX1_find yX1_find, .code yX1_find cX1_find 3 (some .int), .fieldLink RX1 13 "OrderLineModel" "many" "I", .fieldLink RX1 7 "OrderLineModel" "line" "[I"] ++ wsX10)
def wsX1_at : List Cond := .code yX1_at cX1_at 2 (some .int) :: ([.fieldLink RX1 20 "OrderLineModel" "thrown" "I", .fieldLink RX1 13 "OrderLineModel" "many" "I", .fieldLink RX1 7 "OrderLineModel" "line" "[I"] ++ wsX10)
def wsX1_greatest : List Cond := .code yX1_greatest cX1_greatest 5 (some .int) :: ([.fieldLink RX1 7 "OrderLineModel" "line" "[I", .methodLink RX1 27 yX1_lacks, .instanceMethod yX1_lacks, .selects RX1 yX1_lacks yX1_lacks, .initialized RX1, .code yX1_lacks cX1_lacks 4 (some .boolean), .fieldLink RX1 20 "OrderLineModel" "thrown" "I", .methodLink RX1 23 yX1_find, .instanceMethod yX1_find, .selects RX1 yX1_find yX1_find, .code yX1_find cX1_find 3 (some .int), .fieldLink RX1 13 "OrderLineModel" "many" "I"] ++ wsX10)
def wsX1_wipe : List Cond := .code yX1_wipe cX1_wipe 1 none :: ([.fieldLink RX1 20 "OrderLineModel" "thrown" "I", .fieldLink RX1 13 "OrderLineModel" "many" "I", .fieldLink RX1 7 "OrderLineModel" "line" "[I"] ++ wsX10)
def wsX1_look : List Cond := .code yX1_look cX1_look 2 (some .int) :: ([.fieldLink RX1 20 "OrderLineModel" "thrown" "I", .fieldLink RX1 13 "OrderLineModel" "many" "I", .fieldLink RX1 7 "OrderLineModel" "line" "[I", .methodLink RX1 31 yX1_free, .instanceMethod yX1_free, .selects RX1 yX1_free yX1_free, .initialized RX1, .code yX1_free cX1_free 2 (some .int), .methodLink RX1 23 yX1_find, .instanceMethod yX1_find, .selects RX1 yX1_find yX1_find, .code yX1_find cX1_find 3 (some .int)] ++ wsX10)
theorem dX1_find_0 : decode cX1_find 0 = .ok (.iconst 0, 1) := by decide +kernel
theorem dX1_find_1 : decode cX1_find 1 = .ok (.istore_n 2, 1) := by decide +kernel
theorem dX1_find_2 : decode cX1_find 2 = .ok (.iload_n 2, 1) := by decide +kernel
theorem dX1_find_3 : decode cX1_find 3 = .ok (.aload_n 0, 1) := by decide +kernel
theorem dX1_find_4 : decode cX1_find 4 = .ok (.getfield 13, 3) := by decide +kernel
theorem dX1_find_7 : decode cX1_find 7 = .ok (.if_icmp .ge 21, 3) := by decide +kernel
theorem dX1_find_10 : decode cX1_find 10 = .ok (.aload_n 0, 1) := by decide +kernel
theorem dX1_find_11 : decode cX1_find 11 = .ok (.getfield 7, 3) := by decide +kernel
theorem dX1_find_14 : decode cX1_find 14 = .ok (.iload_n 2, 1) := by decide +kernel
theorem dX1_find_15 : decode cX1_find 15 = .ok (.iaload, 1) := by decide +kernel
theorem dX1_find_16 : decode cX1_find 16 = .ok (.iload_n 1, 1) := by decide +kernel
theorem dX1_find_17 : decode cX1_find 17 = .ok (.if_icmp .ne 5, 3) := by decide +kernel
theorem dX1_find_20 : decode cX1_find 20 = .ok (.iload_n 2, 1) := by decide +kernel
theorem dX1_find_21 : decode cX1_find 21 = .ok (.ireturn, 1) := by decide +kernel
theorem dX1_find_22 : decode cX1_find 22 = .ok (.iinc 2 1, 3) := by decide +kernel
theorem dX1_find_25 : decode cX1_find 25 = .ok (.goto (-23), 3) := by decide +kernel
theorem dX1_find_28 : decode cX1_find 28 = .ok (.iconst (-1), 1) := by decide +kernel
theorem dX1_find_29 : decode cX1_find 29 = .ok (.ireturn, 1) := by decide +kernel
theorem dX1_free_0 : decode cX1_free 0 = .ok (.iconst 0, 1) := by decide +kernel
theorem dX1_free_1 : decode cX1_free 1 = .ok (.istore_n 1, 1) := by decide +kernel
theorem dX1_free_2 : decode cX1_free 2 = .ok (.iload_n 1, 1) := by decide +kernel
theorem dX1_free_3 : decode cX1_free 3 = .ok (.sipush 1000, 3) := by decide +kernel
theorem dX1_free_6 : decode cX1_free 6 = .ok (.if_icmp .ge 17, 3) := by decide +kernel
theorem dX1_free_9 : decode cX1_free 9 = .ok (.aload_n 0, 1) := by decide +kernel
theorem dX1_free_10 : decode cX1_free 10 = .ok (.iload_n 1, 1) := by decide +kernel
theorem dX1_free_11 : decode cX1_free 11 = .ok (.invokevirtual 23, 3) := by decide +kernel
theorem dX1_free_14 : decode cX1_free 14 = .ok (.ifCond .lt 9, 3) := by decide +kernel
theorem dX1_free_17 : decode cX1_free 17 = .ok (.iinc 1 1, 3) := by decide +kernel
theorem dX1_free_20 : decode cX1_free 20 = .ok (.goto (-18), 3) := by decide +kernel
theorem dX1_free_23 : decode cX1_free 23 = .ok (.iload_n 1, 1) := by decide +kernel
theorem dX1_free_24 : decode cX1_free 24 = .ok (.sipush 1000, 3) := by decide +kernel
theorem dX1_free_27 : decode cX1_free 27 = .ok (.if_icmp .ge 7, 3) := by decide +kernel
theorem dX1_free_30 : decode cX1_free 30 = .ok (.iload_n 1, 1) := by decide +kernel
theorem dX1_free_31 : decode cX1_free 31 = .ok (.goto 4, 3) := by decide +kernel
theorem dX1_free_34 : decode cX1_free 34 = .ok (.iconst (-1), 1) := by decide +kernel
theorem dX1_free_35 : decode cX1_free 35 = .ok (.ireturn, 1) := by decide +kernel
set_option maxRecDepth 20000 in
theorem gX1_free_X1_find : GoodIn wsX1_free (wsV RX1 23 RX1 yX1_find wsX1_find) := goodIn_app (goodIn_of _ (by decide +kernel)) (goodIn_r _ [5, 6, 7, 8, 9, 10, 11] (by decide +kernel) (by decide +kernel))
theorem dX1_put_0 : decode cX1_put 0 = .ok (.aload_n 0, 1) := by decide +kernel
theorem dX1_put_1 : decode cX1_put 1 = .ok (.getfield 13, 3) := by decide +kernel
theorem dX1_put_4 : decode cX1_put 4 = .ok (.istore_n 3, 1) := by decide +kernel
theorem dX1_put_5 : decode cX1_put 5 = .ok (.iload_n 3, 1) := by decide +kernel
theorem dX1_put_6 : decode cX1_put 6 = .ok (.iload_n 2, 1) := by decide +kernel
theorem dX1_put_7 : decode cX1_put 7 = .ok (.if_icmp .le 23, 3) := by decide +kernel
theorem dX1_put_10 : decode cX1_put 10 = .ok (.aload_n 0, 1) := by decide +kernel
theorem dX1_put_11 : decode cX1_put 11 = .ok (.getfield 7, 3) := by decide +kernel
theorem dX1_put_14 : decode cX1_put 14 = .ok (.iload_n 3, 1) := by decide +kernel
theorem dX1_put_15 : decode cX1_put 15 = .ok (.aload_n 0, 1) := by decide +kernel
theorem dX1_put_16 : decode cX1_put 16 = .ok (.getfield 7, 3) := by decide +kernel
theorem dX1_put_19 : decode cX1_put 19 = .ok (.iload_n 3, 1) := by decide +kernel
theorem dX1_put_20 : decode cX1_put 20 = .ok (.iconst 1, 1) := by decide +kernel
theorem dX1_put_21 : decode cX1_put 21 = .ok (.isub, 1) := by decide +kernel
theorem dX1_put_22 : decode cX1_put 22 = .ok (.iaload, 1) := by decide +kernel
theorem dX1_put_23 : decode cX1_put 23 = .ok (.iastore, 1) := by decide +kernel
theorem dX1_put_24 : decode cX1_put 24 = .ok (.iinc 3 (-1), 3) := by decide +kernel
theorem dX1_put_27 : decode cX1_put 27 = .ok (.goto (-22), 3) := by decide +kernel
theorem dX1_put_30 : decode cX1_put 30 = .ok (.aload_n 0, 1) := by decide +kernel
theorem dX1_put_31 : decode cX1_put 31 = .ok (.getfield 7, 3) := by decide +kernel
theorem dX1_put_34 : decode cX1_put 34 = .ok (.iload_n 2, 1) := by decide +kernel
theorem dX1_put_35 : decode cX1_put 35 = .ok (.iload_n 1, 1) := by decide +kernel
theorem dX1_put_36 : decode cX1_put 36 = .ok (.iastore, 1) := by decide +kernel
theorem dX1_put_37 : decode cX1_put 37 = .ok (.aload_n 0, 1) := by decide +kernel
theorem dX1_put_38 : decode cX1_put 38 = .ok (.dup, 1) := by decide +kernel
theorem dX1_put_39 : decode cX1_put 39 = .ok (.getfield 13, 3) := by decide +kernel
theorem dX1_put_42 : decode cX1_put 42 = .ok (.iconst 1, 1) := by decide +kernel
theorem dX1_put_43 : decode cX1_put 43 = .ok (.iadd, 1) := by decide +kernel
theorem dX1_put_44 : decode cX1_put 44 = .ok (.putfield 13, 3) := by decide +kernel
theorem dX1_put_47 : decode cX1_put 47 = .ok (.return_, 1) := by decide +kernel
theorem dX1_drop_0 : decode cX1_drop 0 = .ok (.aload_n 0, 1) := by decide +kernel
theorem dX1_drop_1 : decode cX1_drop 1 = .ok (.dup, 1) := by decide +kernel
theorem dX1_drop_2 : decode cX1_drop 2 = .ok (.getfield 13, 3) := by decide +kernel
theorem dX1_drop_5 : decode cX1_drop 5 = .ok (.iconst 1, 1) := by decide +kernel
theorem dX1_drop_6 : decode cX1_drop 6 = .ok (.isub, 1) := by decide +kernel
theorem dX1_drop_7 : decode cX1_drop 7 = .ok (.putfield 13, 3) := by decide +kernel
theorem dX1_drop_10 : decode cX1_drop 10 = .ok (.iload_n 1, 1) := by decide +kernel
theorem dX1_drop_11 : decode cX1_drop 11 = .ok (.istore_n 2, 1) := by decide +kernel
theorem dX1_drop_12 : decode cX1_drop 12 = .ok (.iload_n 2, 1) := by decide +kernel
theorem dX1_drop_13 : decode cX1_drop 13 = .ok (.aload_n 0, 1) := by decide +kernel
theorem dX1_drop_14 : decode cX1_drop 14 = .ok (.getfield 13, 3) := by decide +kernel
theorem dX1_drop_17 : decode cX1_drop 17 = .ok (.if_icmp .ge 23, 3) := by decide +kernel
theorem dX1_drop_20 : decode cX1_drop 20 = .ok (.aload_n 0, 1) := by decide +kernel
theorem dX1_drop_21 : decode cX1_drop 21 = .ok (.getfield 7, 3) := by decide +kernel
theorem dX1_drop_24 : decode cX1_drop 24 = .ok (.iload_n 2, 1) := by decide +kernel
theorem dX1_drop_25 : decode cX1_drop 25 = .ok (.aload_n 0, 1) := by decide +kernel
theorem dX1_drop_26 : decode cX1_drop 26 = .ok (.getfield 7, 3) := by decide +kernel
theorem dX1_drop_29 : decode cX1_drop 29 = .ok (.iload_n 2, 1) := by decide +kernel
theorem dX1_drop_30 : decode cX1_drop 30 = .ok (.iconst 1, 1) := by decide +kernel
theorem dX1_drop_31 : decode cX1_drop 31 = .ok (.iadd, 1) := by decide +kernel
theorem dX1_drop_32 : decode cX1_drop 32 = .ok (.iaload, 1) := by decide +kernel
theorem dX1_drop_33 : decode cX1_drop 33 = .ok (.iastore, 1) := by decide +kernel
theorem dX1_drop_34 : decode cX1_drop 34 = .ok (.iinc 2 1, 3) := by decide +kernel
theorem dX1_drop_37 : decode cX1_drop 37 = .ok (.goto (-25), 3) := by decide +kernel
theorem dX1_drop_40 : decode cX1_drop 40 = .ok (.return_, 1) := by decide +kernel
theorem dX1_lacks_0 : decode cX1_lacks 0 = .ok (.aload_n 0, 1) := by decide +kernel
theorem dX1_lacks_1 : decode cX1_lacks 1 = .ok (.aload_n 0, 1) := by decide +kernel
theorem dX1_lacks_2 : decode cX1_lacks 2 = .ok (.iload_n 1, 1) := by decide +kernel
theorem dX1_lacks_3 : decode cX1_lacks 3 = .ok (.invokevirtual 23, 3) := by decide +kernel
theorem dX1_lacks_6 : decode cX1_lacks 6 = .ok (.ifCond .lt 23, 3) := by decide +kernel
theorem dX1_lacks_9 : decode cX1_lacks 9 = .ok (.aload_n 0, 1) := by decide +kernel
theorem dX1_lacks_10 : decode cX1_lacks 10 = .ok (.iload_n 2, 1) := by decide +kernel
theorem dX1_lacks_11 : decode cX1_lacks 11 = .ok (.invokevirtual 23, 3) := by decide +kernel
theorem dX1_lacks_14 : decode cX1_lacks 14 = .ok (.ifCond .lt 15, 3) := by decide +kernel
theorem dX1_lacks_17 : decode cX1_lacks 17 = .ok (.aload_n 0, 1) := by decide +kernel
theorem dX1_lacks_18 : decode cX1_lacks 18 = .ok (.iload_n 3, 1) := by decide +kernel
theorem dX1_lacks_19 : decode cX1_lacks 19 = .ok (.invokevirtual 23, 3) := by decide +kernel
theorem dX1_lacks_22 : decode cX1_lacks 22 = .ok (.ifCond .lt 7, 3) := by decide +kernel
theorem dX1_lacks_25 : decode cX1_lacks 25 = .ok (.iconst 0, 1) := by decide +kernel
theorem dX1_lacks_26 : decode cX1_lacks 26 = .ok (.goto 4, 3) := by decide +kernel
theorem dX1_lacks_29 : decode cX1_lacks 29 = .ok (.iconst 1, 1) := by decide +kernel
theorem dX1_lacks_30 : decode cX1_lacks 30 = .ok (.putfield 20, 3) := by decide +kernel
theorem dX1_lacks_33 : decode cX1_lacks 33 = .ok (.aload_n 0, 1) := by decide +kernel
theorem dX1_lacks_34 : decode cX1_lacks 34 = .ok (.getfield 20, 3) := by decide +kernel
theorem dX1_lacks_37 : decode cX1_lacks 37 = .ok (.ifCond .le 7, 3) := by decide +kernel
theorem dX1_lacks_40 : decode cX1_lacks 40 = .ok (.iconst 1, 1) := by decide +kernel
theorem dX1_lacks_41 : decode cX1_lacks 41 = .ok (.goto 4, 3) := by decide +kernel
theorem dX1_lacks_44 : decode cX1_lacks 44 = .ok (.iconst 0, 1) := by decide +kernel
theorem dX1_lacks_45 : decode cX1_lacks 45 = .ok (.ireturn, 1) := by decide +kernel
set_option maxRecDepth 20000 in
theorem gX1_lacks_X1_find : GoodIn wsX1_lacks (wsV RX1 23 RX1 yX1_find wsX1_find) := goodIn_app (goodIn_of _ (by decide +kernel)) (goodIn_r _ [6, 7, 8, 9, 10, 11, 12] (by decide +kernel) (by decide +kernel))
set_option maxRecDepth 20000 in
theorem gX1_behind_X1_lacks : GoodIn wsX1_behind (wsV RX1 27 RX1 yX1_lacks wsX1_lacks) := goodIn_app (goodIn_of _ (by decide +kernel)) (goodIn_r _ [5, 6, 7, 8, 9, 4, 10, 11, 12, 21, 22, 23, 24] (by decide +kernel) (by decide +kernel))
set_option maxRecDepth 20000 in
theorem gX1_behind_X1_free : GoodIn wsX1_behind (wsV RX1 31 RX1 yX1_free wsX1_free) := goodIn_app (goodIn_of _ (by decide +kernel)) (goodIn_r _ [16, 7, 8, 9, 4, 10, 11, 12, 21, 22, 23, 24] (by decide +kernel) (by decide +kernel))
set_option maxRecDepth 20000 in
theorem gX1_behind_X1_find : GoodIn wsX1_behind (wsV RX1 23 RX1 yX1_find wsX1_find) := goodIn_app (goodIn_of _ (by decide +kernel)) (goodIn_r _ [10, 11, 12, 21, 22, 23, 24] (by decide +kernel) (by decide +kernel))
set_option maxRecDepth 20000 in
theorem gX1_behind_X1_put : GoodIn wsX1_behind (wsV RX1 35 RX1 yX1_put wsX1_put) := goodIn_app (goodIn_of _ (by decide +kernel)) (goodIn_r _ [20, 11, 12, 21, 22, 23, 24] (by decide +kernel) (by decide +kernel))
theorem dX1_several_0 : decode cX1_several 0 = .ok (.aload_n 0, 1) := by decide +kernel
theorem dX1_several_1 : decode cX1_several 1 = .ok (.iload_n 1, 1) := by decide +kernel
theorem dX1_several_2 : decode cX1_several 2 = .ok (.iconst 0, 1) := by decide +kernel
theorem dX1_several_3 : decode cX1_several 3 = .ok (.iconst 0, 1) := by decide +kernel
theorem dX1_several_4 : decode cX1_several 4 = .ok (.invokevirtual 27, 3) := by decide +kernel
theorem dX1_several_7 : decode cX1_several 7 = .ok (.ifCond .eq 5, 3) := by decide +kernel
theorem dX1_several_10 : decode cX1_several 10 = .ok (.iconst 0, 1) := by decide +kernel
theorem dX1_several_11 : decode cX1_several 11 = .ok (.ireturn, 1) := by decide +kernel
theorem dX1_several_12 : decode cX1_several 12 = .ok (.iload_n 2, 1) := by decide +kernel
theorem dX1_several_13 : decode cX1_several 13 = .ok (.iconst 2, 1) := by decide +kernel
theorem dX1_several_14 : decode cX1_several 14 = .ok (.if_icmp .lt 21, 3) := by decide +kernel
theorem dX1_several_17 : decode cX1_several 17 = .ok (.iload_n 2, 1) := by decide +kernel
theorem dX1_several_18 : decode cX1_several 18 = .ok (.bipush 64, 2) := by decide +kernel
theorem dX1_several_20 : decode cX1_several 20 = .ok (.if_icmp .gt 15, 3) := by decide +kernel
theorem dX1_several_23 : decode cX1_several 23 = .ok (.aload_n 0, 1) := by decide +kernel
theorem dX1_several_24 : decode cX1_several 24 = .ok (.getfield 13, 3) := by decide +kernel
theorem dX1_several_27 : decode cX1_several 27 = .ok (.iload_n 2, 1) := by decide +kernel
theorem dX1_several_28 : decode cX1_several 28 = .ok (.iadd, 1) := by decide +kernel
theorem dX1_several_29 : decode cX1_several 29 = .ok (.sipush 1000, 3) := by decide +kernel
theorem dX1_several_32 : decode cX1_several 32 = .ok (.if_icmp .le 5, 3) := by decide +kernel
theorem dX1_several_35 : decode cX1_several 35 = .ok (.iconst (-1), 1) := by decide +kernel
theorem dX1_several_36 : decode cX1_several 36 = .ok (.ireturn, 1) := by decide +kernel
theorem dX1_several_37 : decode cX1_several 37 = .ok (.aload_n 0, 1) := by decide +kernel
theorem dX1_several_38 : decode cX1_several 38 = .ok (.invokevirtual 31, 3) := by decide +kernel
theorem dX1_several_41 : decode cX1_several 41 = .ok (.istore_n 3, 1) := by decide +kernel
theorem dX1_several_42 : decode cX1_several 42 = .ok (.aload_n 0, 1) := by decide +kernel
theorem dX1_several_43 : decode cX1_several 43 = .ok (.iload_n 1, 1) := by decide +kernel
theorem dX1_several_44 : decode cX1_several 44 = .ok (.invokevirtual 23, 3) := by decide +kernel
theorem dX1_several_47 : decode cX1_several 47 = .ok (.iconst 1, 1) := by decide +kernel
theorem dX1_several_48 : decode cX1_several 48 = .ok (.iadd, 1) := by decide +kernel
theorem dX1_several_49 : decode cX1_several 49 = .ok (.istore 4, 2) := by decide +kernel
theorem dX1_several_51 : decode cX1_several 51 = .ok (.iconst 0, 1) := by decide +kernel
theorem dX1_several_52 : decode cX1_several 52 = .ok (.istore 5, 2) := by decide +kernel
theorem dX1_several_54 : decode cX1_several 54 = .ok (.iload 5, 2) := by decide +kernel
theorem dX1_several_56 : decode cX1_several 56 = .ok (.iload_n 2, 1) := by decide +kernel
theorem dX1_several_57 : decode cX1_several 57 = .ok (.if_icmp .ge 22, 3) := by decide +kernel
theorem dX1_several_60 : decode cX1_several 60 = .ok (.aload_n 0, 1) := by decide +kernel
theorem dX1_several_61 : decode cX1_several 61 = .ok (.aload_n 0, 1) := by decide +kernel
theorem dX1_several_62 : decode cX1_several 62 = .ok (.invokevirtual 31, 3) := by decide +kernel
theorem dX1_several_65 : decode cX1_several 65 = .ok (.iload 4, 2) := by decide +kernel
theorem dX1_several_67 : decode cX1_several 67 = .ok (.iload 5, 2) := by decide +kernel
theorem dX1_several_69 : decode cX1_several 69 = .ok (.iadd, 1) := by decide +kernel
theorem dX1_several_70 : decode cX1_several 70 = .ok (.invokevirtual 35, 3) := by decide +kernel
theorem dX1_several_73 : decode cX1_several 73 = .ok (.iinc 5 1, 3) := by decide +kernel
theorem dX1_several_76 : decode cX1_several 76 = .ok (.goto (-22), 3) := by decide +kernel
theorem dX1_several_79 : decode cX1_several 79 = .ok (.iload_n 3, 1) := by decide +kernel
theorem dX1_several_80 : decode cX1_several 80 = .ok (.ireturn, 1) := by decide +kernel
set_option maxRecDepth 20000 in
theorem gX1_several_X1_lacks : GoodIn wsX1_several (wsV RX1 27 RX1 yX1_lacks wsX1_lacks) := goodIn_app (goodIn_of _ (by decide +kernel)) (goodIn_r _ [6, 7, 8, 9, 10, 5, 11, 1, 12, 21, 22, 23, 24] (by decide +kernel) (by decide +kernel))
set_option maxRecDepth 20000 in
theorem gX1_several_X1_free : GoodIn wsX1_several (wsV RX1 31 RX1 yX1_free wsX1_free) := goodIn_app (goodIn_of _ (by decide +kernel)) (goodIn_r _ [16, 8, 9, 10, 5, 11, 1, 12, 21, 22, 23, 24] (by decide +kernel) (by decide +kernel))
set_option maxRecDepth 20000 in
theorem gX1_several_X1_find : GoodIn wsX1_several (wsV RX1 23 RX1 yX1_find wsX1_find) := goodIn_app (goodIn_of _ (by decide +kernel)) (goodIn_r _ [11, 1, 12, 21, 22, 23, 24] (by decide +kernel) (by decide +kernel))
set_option maxRecDepth 20000 in
theorem gX1_several_X1_put : GoodIn wsX1_several (wsV RX1 35 RX1 yX1_put wsX1_put) := goodIn_app (goodIn_of _ (by decide +kernel)) (goodIn_r _ [20, 1, 12, 21, 22, 23, 24] (by decide +kernel) (by decide +kernel))
theorem dX1_remove_0 : decode cX1_remove 0 = .ok (.aload_n 0, 1) := by decide +kernel
theorem dX1_remove_1 : decode cX1_remove 1 = .ok (.iconst 0, 1) := by decide +kernel
theorem dX1_remove_2 : decode cX1_remove 2 = .ok (.putfield 20, 3) := by decide +kernel
theorem dX1_remove_5 : decode cX1_remove 5 = .ok (.aload_n 0, 1) := by decide +kernel
theorem dX1_remove_6 : decode cX1_remove 6 = .ok (.iload_n 1, 1) := by decide +kernel
theorem dX1_remove_7 : decode cX1_remove 7 = .ok (.invokevirtual 23, 3) := by decide +kernel
theorem dX1_remove_10 : decode cX1_remove 10 = .ok (.istore_n 2, 1) := by decide +kernel
theorem dX1_remove_11 : decode cX1_remove 11 = .ok (.iload_n 2, 1) := by decide +kernel
theorem dX1_remove_12 : decode cX1_remove 12 = .ok (.iconst 1, 1) := by decide +kernel
theorem dX1_remove_13 : decode cX1_remove 13 = .ok (.if_icmp .ge 5, 3) := by decide +kernel
theorem dX1_remove_16 : decode cX1_remove 16 = .ok (.iconst 0, 1) := by decide +kernel
theorem dX1_remove_17 : decode cX1_remove 17 = .ok (.ireturn, 1) := by decide +kernel
theorem dX1_remove_18 : decode cX1_remove 18 = .ok (.aload_n 0, 1) := by decide +kernel
theorem dX1_remove_19 : decode cX1_remove 19 = .ok (.iload_n 2, 1) := by decide +kernel
theorem dX1_remove_20 : decode cX1_remove 20 = .ok (.invokevirtual 39, 3) := by decide +kernel
theorem dX1_remove_23 : decode cX1_remove 23 = .ok (.iconst 1, 1) := by decide +kernel
theorem dX1_remove_24 : decode cX1_remove 24 = .ok (.ireturn, 1) := by decide +kernel
set_option maxRecDepth 20000 in
theorem gX1_remove_X1_find : GoodIn wsX1_remove (wsV RX1 23 RX1 yX1_find wsX1_find) := goodIn_app (goodIn_of _ (by decide +kernel)) (goodIn_r _ [6, 7, 8, 13, 14, 15, 16] (by decide +kernel) (by decide +kernel))
set_option maxRecDepth 20000 in
theorem gX1_remove_X1_drop : GoodIn wsX1_remove (wsV RX1 39 RX1 yX1_drop wsX1_drop) := goodIn_app (goodIn_of _ (by decide +kernel)) (goodIn_r _ [12, 7, 8, 13, 14, 15, 16] (by decide +kernel) (by decide +kernel))
theorem dX1_clear_0 : decode cX1_clear 0 = .ok (.aload_n 0, 1) := by decide +kernel
theorem dX1_clear_1 : decode cX1_clear 1 = .ok (.iload_n 1, 1) := by decide +kernel
theorem dX1_clear_2 : decode cX1_clear 2 = .ok (.iload_n 2, 1) := by decide +kernel
theorem dX1_clear_3 : decode cX1_clear 3 = .ok (.iconst 0, 1) := by decide +kernel
theorem dX1_clear_4 : decode cX1_clear 4 = .ok (.invokevirtual 27, 3) := by decide +kernel
theorem dX1_clear_7 : decode cX1_clear 7 = .ok (.ifCond .eq 5, 3) := by decide +kernel
theorem dX1_clear_10 : decode cX1_clear 10 = .ok (.iconst 0, 1) := by decide +kernel
theorem dX1_clear_11 : decode cX1_clear 11 = .ok (.ireturn, 1) := by decide +kernel
theorem dX1_clear_12 : decode cX1_clear 12 = .ok (.iconst 0, 1) := by decide +kernel
theorem dX1_clear_13 : decode cX1_clear 13 = .ok (.istore_n 3, 1) := by decide +kernel
theorem dX1_clear_14 : decode cX1_clear 14 = .ok (.aload_n 0, 1) := by decide +kernel
theorem dX1_clear_15 : decode cX1_clear 15 = .ok (.iload_n 1, 1) := by decide +kernel
theorem dX1_clear_16 : decode cX1_clear 16 = .ok (.invokevirtual 23, 3) := by decide +kernel
theorem dX1_clear_19 : decode cX1_clear 19 = .ok (.iconst 1, 1) := by decide +kernel
theorem dX1_clear_20 : decode cX1_clear 20 = .ok (.iadd, 1) := by decide +kernel
theorem dX1_clear_21 : decode cX1_clear 21 = .ok (.aload_n 0, 1) := by decide +kernel
theorem dX1_clear_22 : decode cX1_clear 22 = .ok (.iload_n 2, 1) := by decide +kernel
theorem dX1_clear_23 : decode cX1_clear 23 = .ok (.invokevirtual 23, 3) := by decide +kernel
theorem dX1_clear_26 : decode cX1_clear 26 = .ok (.if_icmp .ge 20, 3) := by decide +kernel
theorem dX1_clear_29 : decode cX1_clear 29 = .ok (.aload_n 0, 1) := by decide +kernel
theorem dX1_clear_30 : decode cX1_clear 30 = .ok (.aload_n 0, 1) := by decide +kernel
theorem dX1_clear_31 : decode cX1_clear 31 = .ok (.iload_n 1, 1) := by decide +kernel
theorem dX1_clear_32 : decode cX1_clear 32 = .ok (.invokevirtual 23, 3) := by decide +kernel
theorem dX1_clear_35 : decode cX1_clear 35 = .ok (.iconst 1, 1) := by decide +kernel
theorem dX1_clear_36 : decode cX1_clear 36 = .ok (.iadd, 1) := by decide +kernel
theorem dX1_clear_37 : decode cX1_clear 37 = .ok (.invokevirtual 39, 3) := by decide +kernel
theorem dX1_clear_40 : decode cX1_clear 40 = .ok (.iinc 3 1, 3) := by decide +kernel
theorem dX1_clear_43 : decode cX1_clear 43 = .ok (.goto (-29), 3) := by decide +kernel
theorem dX1_clear_46 : decode cX1_clear 46 = .ok (.iload_n 3, 1) := by decide +kernel
theorem dX1_clear_47 : decode cX1_clear 47 = .ok (.ireturn, 1) := by decide +kernel
set_option maxRecDepth 20000 in
theorem gX1_clear_X1_lacks : GoodIn wsX1_clear (wsV RX1 27 RX1 yX1_lacks wsX1_lacks) := goodIn_app (goodIn_of _ (by decide +kernel)) (goodIn_r _ [5, 6, 7, 8, 9, 4, 10, 11, 12, 17, 18, 19, 20] (by decide +kernel) (by decide +kernel))
set_option maxRecDepth 20000 in
theorem gX1_clear_X1_find : GoodIn wsX1_clear (wsV RX1 23 RX1 yX1_find wsX1_find) := goodIn_app (goodIn_of _ (by decide +kernel)) (goodIn_r _ [10, 11, 12, 17, 18, 19, 20] (by decide +kernel) (by decide +kernel))
set_option maxRecDepth 20000 in
theorem gX1_clear_X1_drop : GoodIn wsX1_clear (wsV RX1 39 RX1 yX1_drop wsX1_drop) := goodIn_app (goodIn_of _ (by decide +kernel)) (goodIn_r _ [16, 11, 12, 17, 18, 19, 20] (by decide +kernel) (by decide +kernel))
theorem dX1_carry_0 : decode cX1_carry 0 = .ok (.aload_n 0, 1) := by decide +kernel
theorem dX1_carry_1 : decode cX1_carry 1 = .ok (.iload_n 1, 1) := by decide +kernel
theorem dX1_carry_2 : decode cX1_carry 2 = .ok (.iload_n 2, 1) := by decide +kernel
theorem dX1_carry_3 : decode cX1_carry 3 = .ok (.iload_n 3, 1) := by decide +kernel
theorem dX1_carry_4 : decode cX1_carry 4 = .ok (.invokevirtual 27, 3) := by decide +kernel
theorem dX1_carry_7 : decode cX1_carry 7 = .ok (.ifCond .eq 5, 3) := by decide +kernel
theorem dX1_carry_10 : decode cX1_carry 10 = .ok (.iconst 0, 1) := by decide +kernel
theorem dX1_carry_11 : decode cX1_carry 11 = .ok (.ireturn, 1) := by decide +kernel
theorem dX1_carry_12 : decode cX1_carry 12 = .ok (.aload_n 0, 1) := by decide +kernel
theorem dX1_carry_13 : decode cX1_carry 13 = .ok (.iload_n 1, 1) := by decide +kernel
theorem dX1_carry_14 : decode cX1_carry 14 = .ok (.invokevirtual 23, 3) := by decide +kernel
theorem dX1_carry_17 : decode cX1_carry 17 = .ok (.istore 4, 2) := by decide +kernel
theorem dX1_carry_19 : decode cX1_carry 19 = .ok (.aload_n 0, 1) := by decide +kernel
theorem dX1_carry_20 : decode cX1_carry 20 = .ok (.iload_n 2, 1) := by decide +kernel
theorem dX1_carry_21 : decode cX1_carry 21 = .ok (.invokevirtual 23, 3) := by decide +kernel
theorem dX1_carry_24 : decode cX1_carry 24 = .ok (.istore 5, 2) := by decide +kernel
theorem dX1_carry_26 : decode cX1_carry 26 = .ok (.aload_n 0, 1) := by decide +kernel
theorem dX1_carry_27 : decode cX1_carry 27 = .ok (.iload_n 3, 1) := by decide +kernel
theorem dX1_carry_28 : decode cX1_carry 28 = .ok (.invokevirtual 23, 3) := by decide +kernel
theorem dX1_carry_31 : decode cX1_carry 31 = .ok (.istore 6, 2) := by decide +kernel
theorem dX1_carry_33 : decode cX1_carry 33 = .ok (.iload 4, 2) := by decide +kernel
theorem dX1_carry_35 : decode cX1_carry 35 = .ok (.iload 5, 2) := by decide +kernel
theorem dX1_carry_37 : decode cX1_carry 37 = .ok (.if_icmp .ge 17, 3) := by decide +kernel
theorem dX1_carry_40 : decode cX1_carry 40 = .ok (.iload 6, 2) := by decide +kernel
theorem dX1_carry_42 : decode cX1_carry 42 = .ok (.iload 4, 2) := by decide +kernel
theorem dX1_carry_44 : decode cX1_carry 44 = .ok (.if_icmp .le 12, 3) := by decide +kernel
theorem dX1_carry_47 : decode cX1_carry 47 = .ok (.iload 6, 2) := by decide +kernel
theorem dX1_carry_49 : decode cX1_carry 49 = .ok (.iload 5, 2) := by decide +kernel
theorem dX1_carry_51 : decode cX1_carry 51 = .ok (.if_icmp .ge 5, 3) := by decide +kernel
theorem dX1_carry_54 : decode cX1_carry 54 = .ok (.iconst (-1), 1) := by decide +kernel
theorem dX1_carry_55 : decode cX1_carry 55 = .ok (.ireturn, 1) := by decide +kernel
theorem dX1_carry_56 : decode cX1_carry 56 = .ok (.iload 5, 2) := by decide +kernel
theorem dX1_carry_58 : decode cX1_carry 58 = .ok (.iload 4, 2) := by decide +kernel
theorem dX1_carry_60 : decode cX1_carry 60 = .ok (.isub, 1) := by decide +kernel
theorem dX1_carry_61 : decode cX1_carry 61 = .ok (.iconst 1, 1) := by decide +kernel
theorem dX1_carry_62 : decode cX1_carry 62 = .ok (.isub, 1) := by decide +kernel
theorem dX1_carry_63 : decode cX1_carry 63 = .ok (.istore 7, 2) := by decide +kernel
theorem dX1_carry_65 : decode cX1_carry 65 = .ok (.iconst 0, 1) := by decide +kernel
theorem dX1_carry_66 : decode cX1_carry 66 = .ok (.istore 8, 2) := by decide +kernel
theorem dX1_carry_68 : decode cX1_carry 68 = .ok (.iload 8, 2) := by decide +kernel
theorem dX1_carry_70 : decode cX1_carry 70 = .ok (.iload 7, 2) := by decide +kernel
theorem dX1_carry_72 : decode cX1_carry 72 = .ok (.if_icmp .ge 33, 3) := by decide +kernel
theorem dX1_carry_75 : decode cX1_carry 75 = .ok (.aload_n 0, 1) := by decide +kernel
theorem dX1_carry_76 : decode cX1_carry 76 = .ok (.getfield 17, 3) := by decide +kernel
theorem dX1_carry_79 : decode cX1_carry 79 = .ok (.iload 8, 2) := by decide +kernel
theorem dX1_carry_81 : decode cX1_carry 81 = .ok (.aload_n 0, 1) := by decide +kernel
theorem dX1_carry_82 : decode cX1_carry 82 = .ok (.getfield 7, 3) := by decide +kernel
theorem dX1_carry_85 : decode cX1_carry 85 = .ok (.iload 4, 2) := by decide +kernel
theorem dX1_carry_87 : decode cX1_carry 87 = .ok (.iconst 1, 1) := by decide +kernel
theorem dX1_carry_88 : decode cX1_carry 88 = .ok (.iadd, 1) := by decide +kernel
theorem dX1_carry_89 : decode cX1_carry 89 = .ok (.iaload, 1) := by decide +kernel
theorem dX1_carry_90 : decode cX1_carry 90 = .ok (.iastore, 1) := by decide +kernel
theorem dX1_carry_91 : decode cX1_carry 91 = .ok (.aload_n 0, 1) := by decide +kernel
theorem dX1_carry_92 : decode cX1_carry 92 = .ok (.iload 4, 2) := by decide +kernel
theorem dX1_carry_94 : decode cX1_carry 94 = .ok (.iconst 1, 1) := by decide +kernel
theorem dX1_carry_95 : decode cX1_carry 95 = .ok (.iadd, 1) := by decide +kernel
theorem dX1_carry_96 : decode cX1_carry 96 = .ok (.invokevirtual 39, 3) := by decide +kernel
theorem dX1_carry_99 : decode cX1_carry 99 = .ok (.iinc 8 1, 3) := by decide +kernel
theorem dX1_carry_102 : decode cX1_carry 102 = .ok (.goto (-34), 3) := by decide +kernel
theorem dX1_carry_105 : decode cX1_carry 105 = .ok (.iconst 0, 1) := by decide +kernel
theorem dX1_carry_106 : decode cX1_carry 106 = .ok (.istore 8, 2) := by decide +kernel
theorem dX1_carry_108 : decode cX1_carry 108 = .ok (.iload 8, 2) := by decide +kernel
theorem dX1_carry_110 : decode cX1_carry 110 = .ok (.iload 7, 2) := by decide +kernel
theorem dX1_carry_112 : decode cX1_carry 112 = .ok (.if_icmp .ge 30, 3) := by decide +kernel
theorem dX1_carry_115 : decode cX1_carry 115 = .ok (.aload_n 0, 1) := by decide +kernel
theorem dX1_carry_116 : decode cX1_carry 116 = .ok (.aload_n 0, 1) := by decide +kernel
theorem dX1_carry_117 : decode cX1_carry 117 = .ok (.getfield 17, 3) := by decide +kernel
theorem dX1_carry_120 : decode cX1_carry 120 = .ok (.iload 8, 2) := by decide +kernel
theorem dX1_carry_122 : decode cX1_carry 122 = .ok (.iaload, 1) := by decide +kernel
theorem dX1_carry_123 : decode cX1_carry 123 = .ok (.aload_n 0, 1) := by decide +kernel
theorem dX1_carry_124 : decode cX1_carry 124 = .ok (.iload_n 3, 1) := by decide +kernel
theorem dX1_carry_125 : decode cX1_carry 125 = .ok (.invokevirtual 23, 3) := by decide +kernel
theorem dX1_carry_128 : decode cX1_carry 128 = .ok (.iconst 1, 1) := by decide +kernel
theorem dX1_carry_129 : decode cX1_carry 129 = .ok (.iadd, 1) := by decide +kernel
theorem dX1_carry_130 : decode cX1_carry 130 = .ok (.iload 8, 2) := by decide +kernel
theorem dX1_carry_132 : decode cX1_carry 132 = .ok (.iadd, 1) := by decide +kernel
theorem dX1_carry_133 : decode cX1_carry 133 = .ok (.invokevirtual 35, 3) := by decide +kernel
theorem dX1_carry_136 : decode cX1_carry 136 = .ok (.iinc 8 1, 3) := by decide +kernel
theorem dX1_carry_139 : decode cX1_carry 139 = .ok (.goto (-31), 3) := by decide +kernel
theorem dX1_carry_142 : decode cX1_carry 142 = .ok (.iload 7, 2) := by decide +kernel
theorem dX1_carry_144 : decode cX1_carry 144 = .ok (.ireturn, 1) := by decide +kernel
set_option maxRecDepth 20000 in
theorem gX1_carry_X1_lacks : GoodIn wsX1_carry (wsV RX1 27 RX1 yX1_lacks wsX1_lacks) := goodIn_app (goodIn_of _ (by decide +kernel)) (goodIn_r _ [7, 8, 9, 10, 11, 6, 12, 13, 2, 22, 23, 24, 25] (by decide +kernel) (by decide +kernel))
set_option maxRecDepth 20000 in
theorem gX1_carry_X1_find : GoodIn wsX1_carry (wsV RX1 23 RX1 yX1_find wsX1_find) := goodIn_app (goodIn_of _ (by decide +kernel)) (goodIn_r _ [12, 13, 2, 22, 23, 24, 25] (by decide +kernel) (by decide +kernel))
set_option maxRecDepth 20000 in
theorem gX1_carry_X1_drop : GoodIn wsX1_carry (wsV RX1 39 RX1 yX1_drop wsX1_drop) := goodIn_app (goodIn_of _ (by decide +kernel)) (goodIn_r _ [17, 13, 2, 22, 23, 24, 25] (by decide +kernel) (by decide +kernel))
set_option maxRecDepth 20000 in
theorem gX1_carry_X1_put : GoodIn wsX1_carry (wsV RX1 35 RX1 yX1_put wsX1_put) := goodIn_app (goodIn_of _ (by decide +kernel)) (goodIn_r _ [21, 13, 2, 22, 23, 24, 25] (by decide +kernel) (by decide +kernel))
theorem dX1_compare_0 : decode cX1_compare 0 = .ok (.aload_n 0, 1) := by decide +kernel
theorem dX1_compare_1 : decode cX1_compare 1 = .ok (.iload_n 1, 1) := by decide +kernel
theorem dX1_compare_2 : decode cX1_compare 2 = .ok (.iload_n 2, 1) := by decide +kernel
theorem dX1_compare_3 : decode cX1_compare 3 = .ok (.iconst 0, 1) := by decide +kernel
theorem dX1_compare_4 : decode cX1_compare 4 = .ok (.invokevirtual 27, 3) := by decide +kernel
theorem dX1_compare_7 : decode cX1_compare 7 = .ok (.ifCond .eq 5, 3) := by decide +kernel
theorem dX1_compare_10 : decode cX1_compare 10 = .ok (.iconst 0, 1) := by decide +kernel
theorem dX1_compare_11 : decode cX1_compare 11 = .ok (.ireturn, 1) := by decide +kernel
theorem dX1_compare_12 : decode cX1_compare 12 = .ok (.aload_n 0, 1) := by decide +kernel
theorem dX1_compare_13 : decode cX1_compare 13 = .ok (.iload_n 1, 1) := by decide +kernel
theorem dX1_compare_14 : decode cX1_compare 14 = .ok (.invokevirtual 23, 3) := by decide +kernel
theorem dX1_compare_17 : decode cX1_compare 17 = .ok (.istore_n 3, 1) := by decide +kernel
theorem dX1_compare_18 : decode cX1_compare 18 = .ok (.aload_n 0, 1) := by decide +kernel
theorem dX1_compare_19 : decode cX1_compare 19 = .ok (.iload_n 2, 1) := by decide +kernel
theorem dX1_compare_20 : decode cX1_compare 20 = .ok (.invokevirtual 23, 3) := by decide +kernel
theorem dX1_compare_23 : decode cX1_compare 23 = .ok (.istore 4, 2) := by decide +kernel
theorem dX1_compare_25 : decode cX1_compare 25 = .ok (.iload_n 3, 1) := by decide +kernel
theorem dX1_compare_26 : decode cX1_compare 26 = .ok (.iload 4, 2) := by decide +kernel
theorem dX1_compare_28 : decode cX1_compare 28 = .ok (.if_icmp .ge 7, 3) := by decide +kernel
theorem dX1_compare_31 : decode cX1_compare 31 = .ok (.iconst (-1), 1) := by decide +kernel
theorem dX1_compare_32 : decode cX1_compare 32 = .ok (.goto 14, 3) := by decide +kernel
theorem dX1_compare_35 : decode cX1_compare 35 = .ok (.iload_n 3, 1) := by decide +kernel
theorem dX1_compare_36 : decode cX1_compare 36 = .ok (.iload 4, 2) := by decide +kernel
theorem dX1_compare_38 : decode cX1_compare 38 = .ok (.if_icmp .le 7, 3) := by decide +kernel
theorem dX1_compare_41 : decode cX1_compare 41 = .ok (.iconst 1, 1) := by decide +kernel
theorem dX1_compare_42 : decode cX1_compare 42 = .ok (.goto 4, 3) := by decide +kernel
theorem dX1_compare_45 : decode cX1_compare 45 = .ok (.iconst 0, 1) := by decide +kernel
theorem dX1_compare_46 : decode cX1_compare 46 = .ok (.ireturn, 1) := by decide +kernel
set_option maxRecDepth 20000 in
theorem gX1_compare_X1_lacks : GoodIn wsX1_compare (wsV RX1 27 RX1 yX1_lacks wsX1_lacks) := goodIn_app (goodIn_of _ (by decide +kernel)) (goodIn_r _ [5, 6, 7, 8, 9, 4, 10, 11, 12, 13, 14, 15, 16] (by decide +kernel) (by decide +kernel))
set_option maxRecDepth 20000 in
theorem gX1_compare_X1_find : GoodIn wsX1_compare (wsV RX1 23 RX1 yX1_find wsX1_find) := goodIn_app (goodIn_of _ (by decide +kernel)) (goodIn_r _ [10, 11, 12, 13, 14, 15, 16] (by decide +kernel) (by decide +kernel))
theorem dX1_next_0 : decode cX1_next 0 = .ok (.aload_n 0, 1) := by decide +kernel
theorem dX1_next_1 : decode cX1_next 1 = .ok (.iload_n 1, 1) := by decide +kernel
theorem dX1_next_2 : decode cX1_next 2 = .ok (.iconst 0, 1) := by decide +kernel
theorem dX1_next_3 : decode cX1_next 3 = .ok (.iconst 0, 1) := by decide +kernel
theorem dX1_next_4 : decode cX1_next 4 = .ok (.invokevirtual 27, 3) := by decide +kernel
theorem dX1_next_7 : decode cX1_next 7 = .ok (.ifCond .eq 5, 3) := by decide +kernel
theorem dX1_next_10 : decode cX1_next 10 = .ok (.iconst 0, 1) := by decide +kernel
theorem dX1_next_11 : decode cX1_next 11 = .ok (.ireturn, 1) := by decide +kernel
theorem dX1_next_12 : decode cX1_next 12 = .ok (.aload_n 0, 1) := by decide +kernel
theorem dX1_next_13 : decode cX1_next 13 = .ok (.iload_n 1, 1) := by decide +kernel
theorem dX1_next_14 : decode cX1_next 14 = .ok (.invokevirtual 23, 3) := by decide +kernel
theorem dX1_next_17 : decode cX1_next 17 = .ok (.iload_n 2, 1) := by decide +kernel
theorem dX1_next_18 : decode cX1_next 18 = .ok (.ifCond .eq 7, 3) := by decide +kernel
theorem dX1_next_21 : decode cX1_next 21 = .ok (.iconst 1, 1) := by decide +kernel
theorem dX1_next_22 : decode cX1_next 22 = .ok (.goto 4, 3) := by decide +kernel
theorem dX1_next_25 : decode cX1_next 25 = .ok (.iconst (-1), 1) := by decide +kernel
theorem dX1_next_26 : decode cX1_next 26 = .ok (.iadd, 1) := by decide +kernel
theorem dX1_next_27 : decode cX1_next 27 = .ok (.istore_n 3, 1) := by decide +kernel
theorem dX1_next_28 : decode cX1_next 28 = .ok (.iload_n 3, 1) := by decide +kernel
theorem dX1_next_29 : decode cX1_next 29 = .ok (.ifCond .lt 11, 3) := by decide +kernel
theorem dX1_next_32 : decode cX1_next 32 = .ok (.iload_n 3, 1) := by decide +kernel
theorem dX1_next_33 : decode cX1_next 33 = .ok (.aload_n 0, 1) := by decide +kernel
theorem dX1_next_34 : decode cX1_next 34 = .ok (.getfield 13, 3) := by decide +kernel
theorem dX1_next_37 : decode cX1_next 37 = .ok (.if_icmp .lt 7, 3) := by decide +kernel
theorem dX1_next_40 : decode cX1_next 40 = .ok (.iconst (-1), 1) := by decide +kernel
theorem dX1_next_41 : decode cX1_next 41 = .ok (.goto 9, 3) := by decide +kernel
theorem dX1_next_44 : decode cX1_next 44 = .ok (.aload_n 0, 1) := by decide +kernel
theorem dX1_next_45 : decode cX1_next 45 = .ok (.getfield 7, 3) := by decide +kernel
theorem dX1_next_48 : decode cX1_next 48 = .ok (.iload_n 3, 1) := by decide +kernel
theorem dX1_next_49 : decode cX1_next 49 = .ok (.iaload, 1) := by decide +kernel
theorem dX1_next_50 : decode cX1_next 50 = .ok (.ireturn, 1) := by decide +kernel
set_option maxRecDepth 20000 in
theorem gX1_next_X1_lacks : GoodIn wsX1_next (wsV RX1 27 RX1 yX1_lacks wsX1_lacks) := goodIn_app (goodIn_of _ (by decide +kernel)) (goodIn_r _ [7, 8, 9, 10, 11, 6, 12, 1, 2, 13, 14, 15, 16] (by decide +kernel) (by decide +kernel))
set_option maxRecDepth 20000 in
theorem gX1_next_X1_find : GoodIn wsX1_next (wsV RX1 23 RX1 yX1_find wsX1_find) := goodIn_app (goodIn_of _ (by decide +kernel)) (goodIn_r _ [12, 1, 2, 13, 14, 15, 16] (by decide +kernel) (by decide +kernel))
theorem dX1_has_0 : decode cX1_has 0 = .ok (.aload_n 0, 1) := by decide +kernel
theorem dX1_has_1 : decode cX1_has 1 = .ok (.iconst 0, 1) := by decide +kernel
theorem dX1_has_2 : decode cX1_has 2 = .ok (.putfield 20, 3) := by decide +kernel
theorem dX1_has_5 : decode cX1_has 5 = .ok (.aload_n 0, 1) := by decide +kernel
theorem dX1_has_6 : decode cX1_has 6 = .ok (.iload_n 1, 1) := by decide +kernel
theorem dX1_has_7 : decode cX1_has 7 = .ok (.invokevirtual 23, 3) := by decide +kernel
theorem dX1_has_10 : decode cX1_has 10 = .ok (.ifCond .lt 7, 3) := by decide +kernel
theorem dX1_has_13 : decode cX1_has 13 = .ok (.iconst 1, 1) := by decide +kernel
theorem dX1_has_14 : decode cX1_has 14 = .ok (.goto 4, 3) := by decide +kernel
theorem dX1_has_17 : decode cX1_has 17 = .ok (.iconst 0, 1) := by decide +kernel
theorem dX1_has_18 : decode cX1_has 18 = .ok (.ireturn, 1) := by decide +kernel
set_option maxRecDepth 20000 in
theorem gX1_has_X1_find : GoodIn wsX1_has (wsV RX1 23 RX1 yX1_find wsX1_find) := goodIn_app (goodIn_of _ (by decide +kernel)) (goodIn_r _ [6, 7, 8, 9, 10, 11, 12] (by decide +kernel) (by decide +kernel))
theorem dX1_place_0 : decode cX1_place 0 = .ok (.aload_n 0, 1) := by decide +kernel
theorem dX1_place_1 : decode cX1_place 1 = .ok (.iload_n 1, 1) := by decide +kernel
theorem dX1_place_2 : decode cX1_place 2 = .ok (.iconst 0, 1) := by decide +kernel
theorem dX1_place_3 : decode cX1_place 3 = .ok (.iconst 0, 1) := by decide +kernel
theorem dX1_place_4 : decode cX1_place 4 = .ok (.invokevirtual 27, 3) := by decide +kernel
theorem dX1_place_7 : decode cX1_place 7 = .ok (.ifCond .eq 7, 3) := by decide +kernel
theorem dX1_place_10 : decode cX1_place 10 = .ok (.iconst 0, 1) := by decide +kernel
theorem dX1_place_11 : decode cX1_place 11 = .ok (.goto 8, 3) := by decide +kernel
theorem dX1_place_14 : decode cX1_place 14 = .ok (.aload_n 0, 1) := by decide +kernel
theorem dX1_place_15 : decode cX1_place 15 = .ok (.iload_n 1, 1) := by decide +kernel
theorem dX1_place_16 : decode cX1_place 16 = .ok (.invokevirtual 23, 3) := by decide +kernel
theorem dX1_place_19 : decode cX1_place 19 = .ok (.ireturn, 1) := by decide +kernel
set_option maxRecDepth 20000 in
theorem gX1_place_X1_lacks : GoodIn wsX1_place (wsV RX1 27 RX1 yX1_lacks wsX1_lacks) := goodIn_app (goodIn_of _ (by decide +kernel)) (goodIn_r _ [5, 6, 7, 8, 9, 4, 10, 11, 12, 13, 14, 15, 16] (by decide +kernel) (by decide +kernel))
set_option maxRecDepth 20000 in
theorem gX1_place_X1_find : GoodIn wsX1_place (wsV RX1 23 RX1 yX1_find wsX1_find) := goodIn_app (goodIn_of _ (by decide +kernel)) (goodIn_r _ [10, 11, 12, 13, 14, 15, 16] (by decide +kernel) (by decide +kernel))
theorem dX1_at_0 : decode cX1_at 0 = .ok (.aload_n 0, 1) := by decide +kernel
theorem dX1_at_1 : decode cX1_at 1 = .ok (.iconst 0, 1) := by decide +kernel
theorem dX1_at_2 : decode cX1_at 2 = .ok (.putfield 20, 3) := by decide +kernel
theorem dX1_at_5 : decode cX1_at 5 = .ok (.iload_n 1, 1) := by decide +kernel
theorem dX1_at_6 : decode cX1_at 6 = .ok (.ifCond .lt 11, 3) := by decide +kernel
theorem dX1_at_9 : decode cX1_at 9 = .ok (.iload_n 1, 1) := by decide +kernel
theorem dX1_at_10 : decode cX1_at 10 = .ok (.aload_n 0, 1) := by decide +kernel
theorem dX1_at_11 : decode cX1_at 11 = .ok (.getfield 13, 3) := by decide +kernel
theorem dX1_at_14 : decode cX1_at 14 = .ok (.if_icmp .lt 7, 3) := by decide +kernel
theorem dX1_at_17 : decode cX1_at 17 = .ok (.iconst (-1), 1) := by decide +kernel
theorem dX1_at_18 : decode cX1_at 18 = .ok (.goto 9, 3) := by decide +kernel
theorem dX1_at_21 : decode cX1_at 21 = .ok (.aload_n 0, 1) := by decide +kernel
theorem dX1_at_22 : decode cX1_at 22 = .ok (.getfield 7, 3) := by decide +kernel
theorem dX1_at_25 : decode cX1_at 25 = .ok (.iload_n 1, 1) := by decide +kernel
theorem dX1_at_26 : decode cX1_at 26 = .ok (.iaload, 1) := by decide +kernel
theorem dX1_at_27 : decode cX1_at 27 = .ok (.ireturn, 1) := by decide +kernel
theorem dX1_greatest_0 : decode cX1_greatest 0 = .ok (.aload_n 0, 1) := by decide +kernel
theorem dX1_greatest_1 : decode cX1_greatest 1 = .ok (.iload_n 1, 1) := by decide +kernel
theorem dX1_greatest_2 : decode cX1_greatest 2 = .ok (.iload_n 2, 1) := by decide +kernel
theorem dX1_greatest_3 : decode cX1_greatest 3 = .ok (.iconst 0, 1) := by decide +kernel
theorem dX1_greatest_4 : decode cX1_greatest 4 = .ok (.invokevirtual 27, 3) := by decide +kernel
theorem dX1_greatest_7 : decode cX1_greatest 7 = .ok (.ifCond .eq 5, 3) := by decide +kernel
theorem dX1_greatest_10 : decode cX1_greatest 10 = .ok (.iconst 0, 1) := by decide +kernel
theorem dX1_greatest_11 : decode cX1_greatest 11 = .ok (.ireturn, 1) := by decide +kernel
theorem dX1_greatest_12 : decode cX1_greatest 12 = .ok (.iconst (-1), 1) := by decide +kernel
theorem dX1_greatest_13 : decode cX1_greatest 13 = .ok (.istore_n 3, 1) := by decide +kernel
theorem dX1_greatest_14 : decode cX1_greatest 14 = .ok (.aload_n 0, 1) := by decide +kernel
theorem dX1_greatest_15 : decode cX1_greatest 15 = .ok (.iload_n 1, 1) := by decide +kernel
theorem dX1_greatest_16 : decode cX1_greatest 16 = .ok (.invokevirtual 23, 3) := by decide +kernel
theorem dX1_greatest_19 : decode cX1_greatest 19 = .ok (.istore 4, 2) := by decide +kernel
theorem dX1_greatest_21 : decode cX1_greatest 21 = .ok (.iload 4, 2) := by decide +kernel
theorem dX1_greatest_23 : decode cX1_greatest 23 = .ok (.aload_n 0, 1) := by decide +kernel
theorem dX1_greatest_24 : decode cX1_greatest 24 = .ok (.iload_n 2, 1) := by decide +kernel
theorem dX1_greatest_25 : decode cX1_greatest 25 = .ok (.invokevirtual 23, 3) := by decide +kernel
theorem dX1_greatest_28 : decode cX1_greatest 28 = .ok (.if_icmp .gt 32, 3) := by decide +kernel
theorem dX1_greatest_31 : decode cX1_greatest 31 = .ok (.aload_n 0, 1) := by decide +kernel
theorem dX1_greatest_32 : decode cX1_greatest 32 = .ok (.getfield 7, 3) := by decide +kernel
theorem dX1_greatest_35 : decode cX1_greatest 35 = .ok (.iload 4, 2) := by decide +kernel
theorem dX1_greatest_37 : decode cX1_greatest 37 = .ok (.iaload, 1) := by decide +kernel
theorem dX1_greatest_38 : decode cX1_greatest 38 = .ok (.iload_n 3, 1) := by decide +kernel
theorem dX1_greatest_39 : decode cX1_greatest 39 = .ok (.if_icmp .le 13, 3) := by decide +kernel
theorem dX1_greatest_42 : decode cX1_greatest 42 = .ok (.aload_n 0, 1) := by decide +kernel
theorem dX1_greatest_43 : decode cX1_greatest 43 = .ok (.getfield 7, 3) := by decide +kernel
theorem dX1_greatest_46 : decode cX1_greatest 46 = .ok (.iload 4, 2) := by decide +kernel
theorem dX1_greatest_48 : decode cX1_greatest 48 = .ok (.iaload, 1) := by decide +kernel
theorem dX1_greatest_49 : decode cX1_greatest 49 = .ok (.goto 4, 3) := by decide +kernel
theorem dX1_greatest_52 : decode cX1_greatest 52 = .ok (.iload_n 3, 1) := by decide +kernel
theorem dX1_greatest_53 : decode cX1_greatest 53 = .ok (.istore_n 3, 1) := by decide +kernel
theorem dX1_greatest_54 : decode cX1_greatest 54 = .ok (.iinc 4 1, 3) := by decide +kernel
theorem dX1_greatest_57 : decode cX1_greatest 57 = .ok (.goto (-36), 3) := by decide +kernel
theorem dX1_greatest_60 : decode cX1_greatest 60 = .ok (.iload_n 3, 1) := by decide +kernel
theorem dX1_greatest_61 : decode cX1_greatest 61 = .ok (.ireturn, 1) := by decide +kernel
set_option maxRecDepth 20000 in
theorem gX1_greatest_X1_lacks : GoodIn wsX1_greatest (wsV RX1 27 RX1 yX1_lacks wsX1_lacks) := goodIn_app (goodIn_of _ (by decide +kernel)) (goodIn_r _ [6, 7, 8, 9, 10, 5, 11, 12, 1, 13, 14, 15, 16] (by decide +kernel) (by decide +kernel))
set_option maxRecDepth 20000 in
theorem gX1_greatest_X1_find : GoodIn wsX1_greatest (wsV RX1 23 RX1 yX1_find wsX1_find) := goodIn_app (goodIn_of _ (by decide +kernel)) (goodIn_r _ [11, 12, 1, 13, 14, 15, 16] (by decide +kernel) (by decide +kernel))
theorem dX1_wipe_0 : decode cX1_wipe 0 = .ok (.aload_n 0, 1) := by decide +kernel
theorem dX1_wipe_1 : decode cX1_wipe 1 = .ok (.iconst 0, 1) := by decide +kernel
theorem dX1_wipe_2 : decode cX1_wipe 2 = .ok (.putfield 20, 3) := by decide +kernel
theorem dX1_wipe_5 : decode cX1_wipe 5 = .ok (.aload_n 0, 1) := by decide +kernel
theorem dX1_wipe_6 : decode cX1_wipe 6 = .ok (.iconst 1, 1) := by decide +kernel
theorem dX1_wipe_7 : decode cX1_wipe 7 = .ok (.putfield 13, 3) := by decide +kernel
theorem dX1_wipe_10 : decode cX1_wipe 10 = .ok (.aload_n 0, 1) := by decide +kernel
theorem dX1_wipe_11 : decode cX1_wipe 11 = .ok (.getfield 7, 3) := by decide +kernel
theorem dX1_wipe_14 : decode cX1_wipe 14 = .ok (.iconst 0, 1) := by decide +kernel
theorem dX1_wipe_15 : decode cX1_wipe 15 = .ok (.iconst 0, 1) := by decide +kernel
theorem dX1_wipe_16 : decode cX1_wipe 16 = .ok (.iastore, 1) := by decide +kernel
theorem dX1_wipe_17 : decode cX1_wipe 17 = .ok (.return_, 1) := by decide +kernel
theorem dX1_look_0 : decode cX1_look 0 = .ok (.aload_n 0, 1) := by decide +kernel
theorem dX1_look_1 : decode cX1_look 1 = .ok (.iconst 0, 1) := by decide +kernel
theorem dX1_look_2 : decode cX1_look 2 = .ok (.putfield 20, 3) := by decide +kernel
theorem dX1_look_5 : decode cX1_look 5 = .ok (.iload_n 1, 1) := by decide +kernel
theorem dX1_look_6 : decode cX1_look 6 = .ok (.ifCond .ne 10, 3) := by decide +kernel
theorem dX1_look_9 : decode cX1_look 9 = .ok (.aload_n 0, 1) := by decide +kernel
theorem dX1_look_10 : decode cX1_look 10 = .ok (.getfield 13, 3) := by decide +kernel
theorem dX1_look_13 : decode cX1_look 13 = .ok (.goto 35, 3) := by decide +kernel
theorem dX1_look_16 : decode cX1_look 16 = .ok (.iload_n 1, 1) := by decide +kernel
theorem dX1_look_17 : decode cX1_look 17 = .ok (.iconst 1, 1) := by decide +kernel
theorem dX1_look_18 : decode cX1_look 18 = .ok (.if_icmp .ne 17, 3) := by decide +kernel
theorem dX1_look_21 : decode cX1_look 21 = .ok (.aload_n 0, 1) := by decide +kernel
theorem dX1_look_22 : decode cX1_look 22 = .ok (.getfield 7, 3) := by decide +kernel
theorem dX1_look_25 : decode cX1_look 25 = .ok (.aload_n 0, 1) := by decide +kernel
theorem dX1_look_26 : decode cX1_look 26 = .ok (.getfield 13, 3) := by decide +kernel
theorem dX1_look_29 : decode cX1_look 29 = .ok (.iconst 1, 1) := by decide +kernel
theorem dX1_look_30 : decode cX1_look 30 = .ok (.isub, 1) := by decide +kernel
theorem dX1_look_31 : decode cX1_look 31 = .ok (.iaload, 1) := by decide +kernel
theorem dX1_look_32 : decode cX1_look 32 = .ok (.goto 16, 3) := by decide +kernel
theorem dX1_look_35 : decode cX1_look 35 = .ok (.iload_n 1, 1) := by decide +kernel
theorem dX1_look_36 : decode cX1_look 36 = .ok (.iconst 2, 1) := by decide +kernel
theorem dX1_look_37 : decode cX1_look 37 = .ok (.if_icmp .ne 10, 3) := by decide +kernel
theorem dX1_look_40 : decode cX1_look 40 = .ok (.aload_n 0, 1) := by decide +kernel
theorem dX1_look_41 : decode cX1_look 41 = .ok (.invokevirtual 31, 3) := by decide +kernel
theorem dX1_look_44 : decode cX1_look 44 = .ok (.goto 4, 3) := by decide +kernel
theorem dX1_look_47 : decode cX1_look 47 = .ok (.iconst (-1), 1) := by decide +kernel
theorem dX1_look_48 : decode cX1_look 48 = .ok (.ireturn, 1) := by decide +kernel
set_option maxRecDepth 20000 in
theorem gX1_look_X1_free : GoodIn wsX1_look (wsV RX1 31 RX1 yX1_free wsX1_free) := goodIn_app (goodIn_of _ (by decide +kernel)) (goodIn_r _ [8, 9, 10, 11, 7, 12, 2, 3, 13, 14, 15, 16] (by decide +kernel) (by decide +kernel))
