/-! names: methods, their instructions, words -/
theorem mw_1 : Cond.initialized "RecordLake" ∈ gW := gw_of (List.mem_of_getElem? (i := 1) (by decide +kernel)) (by decide +kernel)
theorem mw_790 : Cond.instanceMethod ⟨"RecordLake$Bytes", "at", "(I)I"⟩ ∈ gW := gw_of (List.mem_of_getElem? (i := 790) (by decide +kernel)) (by decide +kernel)
theorem mw_791 : Cond.selects "RecordLake$Bytes" ⟨"RecordLake$Bytes", "at", "(I)I"⟩ ⟨"RecordLake$Bytes", "at", "(I)I"⟩ ∈ gW := gw_of (List.mem_of_getElem? (i := 791) (by decide +kernel)) (by decide +kernel)
theorem mw_1497 : Cond.methodLink "RecordLake" 229 ⟨"RecordLake", "needWhat", "(II)V"⟩ ∈ gW := gw_of (List.mem_of_getElem? (i := 1497) (by decide +kernel)) (by decide +kernel)
theorem mw_1498 : Cond.static ⟨"RecordLake", "needWhat", "(II)V"⟩ ∈ gW := gw_of (List.mem_of_getElem? (i := 1498) (by decide +kernel)) (by decide +kernel)
theorem mw_1523 : Cond.code ⟨"RecordLake", "letter", "(II)I"⟩ prog_1_method_16_code 4 (some .int) ∈ gW := gw_of (List.mem_of_getElem? (i := 1523) (by decide +kernel)) (by decide +kernel)
theorem mw_1524 : Cond.methodLink "RecordLake" 242 ⟨"RecordLake$Bytes", "at", "(I)I"⟩ ∈ gW := gw_of (List.mem_of_getElem? (i := 1524) (by decide +kernel)) (by decide +kernel)
theorem mw_1532 : Cond.code ⟨"RecordLake", "size", "(I)I"⟩ prog_1_method_17_code 2 (some .int) ∈ gW := gw_of (List.mem_of_getElem? (i := 1532) (by decide +kernel)) (by decide +kernel)
abbrev b_Lk_size : ByteArray := prog_1_method_17_code
abbrev y_Lk_size : MethodName := ⟨"RecordLake", "size", "(I)I"⟩
abbrev w_Lk_size : List Cond := Cond.code y_Lk_size b_Lk_size 2 (some .int) :: gW
theorem d_Lk_size_0 : decode b_Lk_size 0 = .ok (.iload_n 1, 1) := by decide +kernel
theorem d_Lk_size_1 : decode b_Lk_size 1 = .ok (.iconst 1, 1) := by decide +kernel
theorem d_Lk_size_2 : decode b_Lk_size 2 = .ok (.invokestatic 229, 3) := by decide +kernel
theorem d_Lk_size_5 : decode b_Lk_size 5 = .ok (.iload_n 1, 1) := by decide +kernel
theorem d_Lk_size_6 : decode b_Lk_size 6 = .ok (.ifCond .ne 13, 3) := by decide +kernel
theorem d_Lk_size_9 : decode b_Lk_size 9 = .ok (.aload_n 0, 1) := by decide +kernel
theorem d_Lk_size_10 : decode b_Lk_size 10 = .ok (.getfield 18, 3) := by decide +kernel
theorem d_Lk_size_13 : decode b_Lk_size 13 = .ok (.getfield 110, 3) := by decide +kernel
theorem d_Lk_size_16 : decode b_Lk_size 16 = .ok (.goto 10, 3) := by decide +kernel
theorem d_Lk_size_19 : decode b_Lk_size 19 = .ok (.aload_n 0, 1) := by decide +kernel
theorem d_Lk_size_20 : decode b_Lk_size 20 = .ok (.getfield 21, 3) := by decide +kernel
theorem d_Lk_size_23 : decode b_Lk_size 23 = .ok (.getfield 110, 3) := by decide +kernel
theorem d_Lk_size_26 : decode b_Lk_size 26 = .ok (.ireturn, 1) := by decide +kernel
abbrev b_Lk_letter : ByteArray := prog_1_method_16_code
abbrev y_Lk_letter : MethodName := ⟨"RecordLake", "letter", "(II)I"⟩
abbrev w_Lk_letter : List Cond := Cond.code y_Lk_letter b_Lk_letter 4 (some .int) :: gW
theorem d_Lk_letter_0 : decode b_Lk_letter 0 = .ok (.iload_n 2, 1) := by decide +kernel
theorem d_Lk_letter_1 : decode b_Lk_letter 1 = .ok (.iconst 1, 1) := by decide +kernel
theorem d_Lk_letter_2 : decode b_Lk_letter 2 = .ok (.invokestatic 229, 3) := by decide +kernel
theorem d_Lk_letter_5 : decode b_Lk_letter 5 = .ok (.iload_n 2, 1) := by decide +kernel
theorem d_Lk_letter_6 : decode b_Lk_letter 6 = .ok (.ifCond .ne 14, 3) := by decide +kernel
theorem d_Lk_letter_9 : decode b_Lk_letter 9 = .ok (.aload_n 0, 1) := by decide +kernel
theorem d_Lk_letter_10 : decode b_Lk_letter 10 = .ok (.getfield 18, 3) := by decide +kernel
theorem d_Lk_letter_13 : decode b_Lk_letter 13 = .ok (.iload_n 1, 1) := by decide +kernel
theorem d_Lk_letter_14 : decode b_Lk_letter 14 = .ok (.invokevirtual 242, 3) := by decide +kernel
theorem d_Lk_letter_17 : decode b_Lk_letter 17 = .ok (.goto 11, 3) := by decide +kernel
theorem d_Lk_letter_20 : decode b_Lk_letter 20 = .ok (.aload_n 0, 1) := by decide +kernel
theorem d_Lk_letter_21 : decode b_Lk_letter 21 = .ok (.getfield 21, 3) := by decide +kernel
theorem d_Lk_letter_24 : decode b_Lk_letter 24 = .ok (.iload_n 1, 1) := by decide +kernel
theorem d_Lk_letter_25 : decode b_Lk_letter 25 = .ok (.invokevirtual 242, 3) := by decide +kernel
theorem d_Lk_letter_28 : decode b_Lk_letter 28 = .ok (.istore_n 3, 1) := by decide +kernel
theorem d_Lk_letter_29 : decode b_Lk_letter 29 = .ok (.iload_n 3, 1) := by decide +kernel
theorem d_Lk_letter_30 : decode b_Lk_letter 30 = .ok (.iconst (-1), 1) := by decide +kernel
theorem d_Lk_letter_31 : decode b_Lk_letter 31 = .ok (.if_icmp .ne 13, 3) := by decide +kernel
theorem d_Lk_letter_34 : decode b_Lk_letter 34 = .ok (.new 171, 3) := by decide +kernel
theorem d_Lk_letter_37 : decode b_Lk_letter 37 = .ok (.dup, 1) := by decide +kernel
theorem d_Lk_letter_38 : decode b_Lk_letter 38 = .ok (.ldc 245, 2) := by decide +kernel
theorem d_Lk_letter_40 : decode b_Lk_letter 40 = .ok (.invokespecial 175, 3) := by decide +kernel
theorem d_Lk_letter_43 : decode b_Lk_letter 43 = .ok (.athrow, 1) := by decide +kernel
theorem d_Lk_letter_44 : decode b_Lk_letter 44 = .ok (.iload_n 3, 1) := by decide +kernel
theorem d_Lk_letter_45 : decode b_Lk_letter 45 = .ok (.ireturn, 1) := by decide +kernel
