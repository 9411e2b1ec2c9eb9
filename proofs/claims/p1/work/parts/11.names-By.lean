/-! names: methods, their instructions, words -/
theorem mw_2 : Cond.initialized "RecordLake$Bytes" ∈ gW := gw_of (List.mem_of_getElem? (i := 2) (by decide +kernel)) (by decide +kernel)
theorem mw_34 : Cond.instanceMethod ⟨"java/lang/Object", "<init>", "()V"⟩ ∈ gW := gw_of (List.mem_of_getElem? (i := 34) (by decide +kernel)) (by decide +kernel)
theorem mw_35 : Cond.code ⟨"java/lang/Object", "<init>", "()V"⟩ object_method_1_code 1 none ∈ gW := gw_of (List.mem_of_getElem? (i := 35) (by decide +kernel)) (by decide +kernel)
theorem mw_40 : Cond.code ⟨"RecordLake$Bytes", "<init>", "(I)V"⟩ prog_2_method_1_code 2 none ∈ gW := gw_of (List.mem_of_getElem? (i := 40) (by decide +kernel)) (by decide +kernel)
theorem mw_41 : Cond.methodLink "RecordLake$Bytes" 3 ⟨"java/lang/Object", "<init>", "()V"⟩ ∈ gW := gw_of (List.mem_of_getElem? (i := 41) (by decide +kernel)) (by decide +kernel)
theorem mw_42 : Cond.fieldLink "RecordLake$Bytes" 9 "RecordLake$Bytes" "row" "[B" ∈ gW := gw_of (List.mem_of_getElem? (i := 42) (by decide +kernel)) (by decide +kernel)
theorem mw_50 : Cond.fieldLink "RecordLake$Bytes" 15 "RecordLake$Bytes" "length" "I" ∈ gW := gw_of (List.mem_of_getElem? (i := 50) (by decide +kernel)) (by decide +kernel)
theorem mw_64 : Cond.arrayClass .byte ∈ gW := gw_of (List.mem_of_getElem? (i := 64) (by decide +kernel)) (by decide +kernel)
theorem mw_601 : Cond.instanceMethod ⟨"RecordLake$Bytes", "put", "(I)Z"⟩ ∈ gW := gw_of (List.mem_of_getElem? (i := 601) (by decide +kernel)) (by decide +kernel)
theorem mw_602 : Cond.selects "RecordLake$Bytes" ⟨"RecordLake$Bytes", "put", "(I)Z"⟩ ⟨"RecordLake$Bytes", "put", "(I)Z"⟩ ∈ gW := gw_of (List.mem_of_getElem? (i := 602) (by decide +kernel)) (by decide +kernel)
theorem mw_603 : Cond.code ⟨"RecordLake$Bytes", "put", "(I)Z"⟩ prog_2_method_3_code 2 (some .boolean) ∈ gW := gw_of (List.mem_of_getElem? (i := 603) (by decide +kernel)) (by decide +kernel)
theorem mw_792 : Cond.code ⟨"RecordLake$Bytes", "at", "(I)I"⟩ prog_2_method_2_code 2 (some .int) ∈ gW := gw_of (List.mem_of_getElem? (i := 792) (by decide +kernel)) (by decide +kernel)
theorem mw_879 : Cond.methodLink "RecordLake$Bytes" 19 ⟨"RecordLake$Bytes", "put", "(I)Z"⟩ ∈ gW := gw_of (List.mem_of_getElem? (i := 879) (by decide +kernel)) (by decide +kernel)
theorem mw_1044 : Cond.code ⟨"RecordLake$Bytes", "putNumber", "(JI)V"⟩ prog_2_method_7_code 5 none ∈ gW := gw_of (List.mem_of_getElem? (i := 1044) (by decide +kernel)) (by decide +kernel)
theorem mw_1216 : Cond.code ⟨"RecordLake$Bytes", "putZeros", "(I)Z"⟩ prog_2_method_4_code 4 (some .boolean) ∈ gW := gw_of (List.mem_of_getElem? (i := 1216) (by decide +kernel)) (by decide +kernel)
abbrev b_By_put : ByteArray := prog_2_method_3_code
abbrev y_By_put : MethodName := ⟨"RecordLake$Bytes", "put", "(I)Z"⟩
abbrev w_By_put : List Cond := Cond.code y_By_put b_By_put 2 (some .boolean) :: gW
theorem d_By_put_0 : decode b_By_put 0 = .ok (.aload_n 0, 1) := by decide +kernel
theorem d_By_put_1 : decode b_By_put 1 = .ok (.getfield 15, 3) := by decide +kernel
theorem d_By_put_4 : decode b_By_put 4 = .ok (.aload_n 0, 1) := by decide +kernel
theorem d_By_put_5 : decode b_By_put 5 = .ok (.getfield 9, 3) := by decide +kernel
theorem d_By_put_8 : decode b_By_put 8 = .ok (.arraylength, 1) := by decide +kernel
theorem d_By_put_9 : decode b_By_put 9 = .ok (.if_icmp .lt 5, 3) := by decide +kernel
theorem d_By_put_12 : decode b_By_put 12 = .ok (.iconst 0, 1) := by decide +kernel
theorem d_By_put_13 : decode b_By_put 13 = .ok (.ireturn, 1) := by decide +kernel
theorem d_By_put_14 : decode b_By_put 14 = .ok (.aload_n 0, 1) := by decide +kernel
theorem d_By_put_15 : decode b_By_put 15 = .ok (.getfield 9, 3) := by decide +kernel
theorem d_By_put_18 : decode b_By_put 18 = .ok (.aload_n 0, 1) := by decide +kernel
theorem d_By_put_19 : decode b_By_put 19 = .ok (.getfield 15, 3) := by decide +kernel
theorem d_By_put_22 : decode b_By_put 22 = .ok (.iload_n 1, 1) := by decide +kernel
theorem d_By_put_23 : decode b_By_put 23 = .ok (.i2b, 1) := by decide +kernel
theorem d_By_put_24 : decode b_By_put 24 = .ok (.bastore, 1) := by decide +kernel
theorem d_By_put_25 : decode b_By_put 25 = .ok (.aload_n 0, 1) := by decide +kernel
theorem d_By_put_26 : decode b_By_put 26 = .ok (.dup, 1) := by decide +kernel
theorem d_By_put_27 : decode b_By_put 27 = .ok (.getfield 15, 3) := by decide +kernel
theorem d_By_put_30 : decode b_By_put 30 = .ok (.iconst 1, 1) := by decide +kernel
theorem d_By_put_31 : decode b_By_put 31 = .ok (.iadd, 1) := by decide +kernel
theorem d_By_put_32 : decode b_By_put 32 = .ok (.putfield 15, 3) := by decide +kernel
theorem d_By_put_35 : decode b_By_put 35 = .ok (.iconst 1, 1) := by decide +kernel
theorem d_By_put_36 : decode b_By_put 36 = .ok (.ireturn, 1) := by decide +kernel
abbrev b_By_at : ByteArray := prog_2_method_2_code
abbrev y_By_at : MethodName := ⟨"RecordLake$Bytes", "at", "(I)I"⟩
abbrev w_By_at : List Cond := Cond.code y_By_at b_By_at 2 (some .int) :: gW
theorem d_By_at_0 : decode b_By_at 0 = .ok (.iload_n 1, 1) := by decide +kernel
theorem d_By_at_1 : decode b_By_at 1 = .ok (.ifCond .lt 11, 3) := by decide +kernel
theorem d_By_at_4 : decode b_By_at 4 = .ok (.iload_n 1, 1) := by decide +kernel
theorem d_By_at_5 : decode b_By_at 5 = .ok (.aload_n 0, 1) := by decide +kernel
theorem d_By_at_6 : decode b_By_at 6 = .ok (.getfield 15, 3) := by decide +kernel
theorem d_By_at_9 : decode b_By_at 9 = .ok (.if_icmp .lt 7, 3) := by decide +kernel
theorem d_By_at_12 : decode b_By_at 12 = .ok (.iconst (-1), 1) := by decide +kernel
theorem d_By_at_13 : decode b_By_at 13 = .ok (.goto 13, 3) := by decide +kernel
theorem d_By_at_16 : decode b_By_at 16 = .ok (.aload_n 0, 1) := by decide +kernel
theorem d_By_at_17 : decode b_By_at 17 = .ok (.getfield 9, 3) := by decide +kernel
theorem d_By_at_20 : decode b_By_at 20 = .ok (.iload_n 1, 1) := by decide +kernel
theorem d_By_at_21 : decode b_By_at 21 = .ok (.baload, 1) := by decide +kernel
theorem d_By_at_22 : decode b_By_at 22 = .ok (.sipush 255, 3) := by decide +kernel
theorem d_By_at_25 : decode b_By_at 25 = .ok (.iand, 1) := by decide +kernel
theorem d_By_at_26 : decode b_By_at 26 = .ok (.ireturn, 1) := by decide +kernel
abbrev b_By_putZeros : ByteArray := prog_2_method_4_code
abbrev y_By_putZeros : MethodName := ⟨"RecordLake$Bytes", "putZeros", "(I)Z"⟩
abbrev w_By_putZeros : List Cond := Cond.code y_By_putZeros b_By_putZeros 4 (some .boolean) :: gW
theorem d_By_putZeros_0 : decode b_By_putZeros 0 = .ok (.iconst 1, 1) := by decide +kernel
theorem d_By_putZeros_1 : decode b_By_putZeros 1 = .ok (.istore_n 2, 1) := by decide +kernel
theorem d_By_putZeros_2 : decode b_By_putZeros 2 = .ok (.iconst 0, 1) := by decide +kernel
theorem d_By_putZeros_3 : decode b_By_putZeros 3 = .ok (.istore_n 3, 1) := by decide +kernel
theorem d_By_putZeros_4 : decode b_By_putZeros 4 = .ok (.iload_n 3, 1) := by decide +kernel
theorem d_By_putZeros_5 : decode b_By_putZeros 5 = .ok (.iload_n 1, 1) := by decide +kernel
theorem d_By_putZeros_6 : decode b_By_putZeros 6 = .ok (.if_icmp .ge 15, 3) := by decide +kernel
theorem d_By_putZeros_9 : decode b_By_putZeros 9 = .ok (.aload_n 0, 1) := by decide +kernel
theorem d_By_putZeros_10 : decode b_By_putZeros 10 = .ok (.iconst 0, 1) := by decide +kernel
theorem d_By_putZeros_11 : decode b_By_putZeros 11 = .ok (.invokevirtual 19, 3) := by decide +kernel
theorem d_By_putZeros_14 : decode b_By_putZeros 14 = .ok (.istore_n 2, 1) := by decide +kernel
theorem d_By_putZeros_15 : decode b_By_putZeros 15 = .ok (.iinc 3 1, 3) := by decide +kernel
theorem d_By_putZeros_18 : decode b_By_putZeros 18 = .ok (.goto (-14), 3) := by decide +kernel
theorem d_By_putZeros_21 : decode b_By_putZeros 21 = .ok (.iload_n 2, 1) := by decide +kernel
theorem d_By_putZeros_22 : decode b_By_putZeros 22 = .ok (.ireturn, 1) := by decide +kernel
abbrev b_By_putNumber : ByteArray := prog_2_method_7_code
abbrev y_By_putNumber : MethodName := ⟨"RecordLake$Bytes", "putNumber", "(JI)V"⟩
abbrev w_By_putNumber : List Cond := Cond.code y_By_putNumber b_By_putNumber 5 none :: gW
theorem d_By_putNumber_0 : decode b_By_putNumber 0 = .ok (.iload_n 3, 1) := by decide +kernel
theorem d_By_putNumber_1 : decode b_By_putNumber 1 = .ok (.iconst 1, 1) := by decide +kernel
theorem d_By_putNumber_2 : decode b_By_putNumber 2 = .ok (.isub, 1) := by decide +kernel
theorem d_By_putNumber_3 : decode b_By_putNumber 3 = .ok (.istore 4, 2) := by decide +kernel
theorem d_By_putNumber_5 : decode b_By_putNumber 5 = .ok (.iload 4, 2) := by decide +kernel
theorem d_By_putNumber_7 : decode b_By_putNumber 7 = .ok (.ifCond .lt 22, 3) := by decide +kernel
theorem d_By_putNumber_10 : decode b_By_putNumber 10 = .ok (.aload_n 0, 1) := by decide +kernel
theorem d_By_putNumber_11 : decode b_By_putNumber 11 = .ok (.lload_n 1, 1) := by decide +kernel
theorem d_By_putNumber_12 : decode b_By_putNumber 12 = .ok (.bipush 8, 2) := by decide +kernel
theorem d_By_putNumber_14 : decode b_By_putNumber 14 = .ok (.iload 4, 2) := by decide +kernel
theorem d_By_putNumber_16 : decode b_By_putNumber 16 = .ok (.imul, 1) := by decide +kernel
theorem d_By_putNumber_17 : decode b_By_putNumber 17 = .ok (.lushr, 1) := by decide +kernel
theorem d_By_putNumber_18 : decode b_By_putNumber 18 = .ok (.l2i, 1) := by decide +kernel
theorem d_By_putNumber_19 : decode b_By_putNumber 19 = .ok (.invokevirtual 19, 3) := by decide +kernel
theorem d_By_putNumber_22 : decode b_By_putNumber 22 = .ok (.pop, 1) := by decide +kernel
theorem d_By_putNumber_23 : decode b_By_putNumber 23 = .ok (.iinc 4 (-1), 3) := by decide +kernel
theorem d_By_putNumber_26 : decode b_By_putNumber 26 = .ok (.goto (-21), 3) := by decide +kernel
theorem d_By_putNumber_29 : decode b_By_putNumber 29 = .ok (.return_, 1) := by decide +kernel
abbrev b_By_init : ByteArray := prog_2_method_1_code
abbrev y_By_init : MethodName := ⟨"RecordLake$Bytes", "<init>", "(I)V"⟩
abbrev w_By_init : List Cond := Cond.code y_By_init b_By_init 2 none :: gW
theorem d_By_init_0 : decode b_By_init 0 = .ok (.aload_n 0, 1) := by decide +kernel
theorem d_By_init_1 : decode b_By_init 1 = .ok (.invokespecial 3, 3) := by decide +kernel
theorem d_By_init_4 : decode b_By_init 4 = .ok (.aload_n 0, 1) := by decide +kernel
theorem d_By_init_5 : decode b_By_init 5 = .ok (.iload_n 1, 1) := by decide +kernel
theorem d_By_init_6 : decode b_By_init 6 = .ok (.newarray .byte, 2) := by decide +kernel
theorem d_By_init_8 : decode b_By_init 8 = .ok (.putfield 9, 3) := by decide +kernel
theorem d_By_init_11 : decode b_By_init 11 = .ok (.aload_n 0, 1) := by decide +kernel
theorem d_By_init_12 : decode b_By_init 12 = .ok (.iconst 0, 1) := by decide +kernel
theorem d_By_init_13 : decode b_By_init 13 = .ok (.putfield 15, 3) := by decide +kernel
theorem d_By_init_16 : decode b_By_init 16 = .ok (.return_, 1) := by decide +kernel
