/-! names: methods, their instructions, words -/
theorem mw_21 : Cond.initialized "java/lang/String" ∈ gW := gw_of (List.mem_of_getElem? (i := 21) (by decide +kernel)) (by decide +kernel)
theorem mw_22 : Cond.initialized "java/lang/StringLatin1" ∈ gW := gw_of (List.mem_of_getElem? (i := 22) (by decide +kernel)) (by decide +kernel)
theorem mw_23 : Cond.initialized "jdk/internal/util/Preconditions" ∈ gW := gw_of (List.mem_of_getElem? (i := 23) (by decide +kernel)) (by decide +kernel)
theorem mw_632 : Cond.code ⟨"java/lang/String", "length", "()I"⟩ prog_23_method_54_code 1 (some .int) ∈ gW := gw_of (List.mem_of_getElem? (i := 632) (by decide +kernel)) (by decide +kernel)
theorem mw_633 : Cond.methodLink "java/lang/String" 335 ⟨"java/lang/String", "coder", "()B"⟩ ∈ gW := gw_of (List.mem_of_getElem? (i := 633) (by decide +kernel)) (by decide +kernel)
theorem mw_634 : Cond.instanceMethod ⟨"java/lang/String", "coder", "()B"⟩ ∈ gW := gw_of (List.mem_of_getElem? (i := 634) (by decide +kernel)) (by decide +kernel)
theorem mw_635 : Cond.selects "java/lang/String" ⟨"java/lang/String", "coder", "()B"⟩ ⟨"java/lang/String", "coder", "()B"⟩ ∈ gW := gw_of (List.mem_of_getElem? (i := 635) (by decide +kernel)) (by decide +kernel)
theorem mw_636 : Cond.code ⟨"java/lang/String", "coder", "()B"⟩ prog_23_method_152_code 1 (some .byte) ∈ gW := gw_of (List.mem_of_getElem? (i := 636) (by decide +kernel)) (by decide +kernel)
theorem mw_637 : Cond.fieldLink "java/lang/String" 38 "java/lang/String" "COMPACT_STRINGS" "Z" ∈ gW := gw_of (List.mem_of_getElem? (i := 637) (by decide +kernel)) (by decide +kernel)
theorem mw_642 : Cond.code ⟨"java/lang/String", "charAt", "(I)C"⟩ prog_23_method_56_code 2 (some .char) ∈ gW := gw_of (List.mem_of_getElem? (i := 642) (by decide +kernel)) (by decide +kernel)
theorem mw_643 : Cond.methodLink "java/lang/String" 492 ⟨"java/lang/String", "isLatin1", "()Z"⟩ ∈ gW := gw_of (List.mem_of_getElem? (i := 643) (by decide +kernel)) (by decide +kernel)
theorem mw_644 : Cond.instanceMethod ⟨"java/lang/String", "isLatin1", "()Z"⟩ ∈ gW := gw_of (List.mem_of_getElem? (i := 644) (by decide +kernel)) (by decide +kernel)
theorem mw_645 : Cond.selects "java/lang/String" ⟨"java/lang/String", "isLatin1", "()Z"⟩ ⟨"java/lang/String", "isLatin1", "()Z"⟩ ∈ gW := gw_of (List.mem_of_getElem? (i := 645) (by decide +kernel)) (by decide +kernel)
theorem mw_646 : Cond.code ⟨"java/lang/String", "isLatin1", "()Z"⟩ prog_23_method_154_code 1 (some .boolean) ∈ gW := gw_of (List.mem_of_getElem? (i := 646) (by decide +kernel)) (by decide +kernel)
theorem mw_647 : Cond.methodLink "java/lang/String" 495 ⟨"java/lang/StringLatin1", "charAt", "([BI)C"⟩ ∈ gW := gw_of (List.mem_of_getElem? (i := 647) (by decide +kernel)) (by decide +kernel)
theorem mw_648 : Cond.static ⟨"java/lang/StringLatin1", "charAt", "([BI)C"⟩ ∈ gW := gw_of (List.mem_of_getElem? (i := 648) (by decide +kernel)) (by decide +kernel)
theorem mw_649 : Cond.code ⟨"java/lang/StringLatin1", "charAt", "([BI)C"⟩ prog_24_method_2_code 2 (some .char) ∈ gW := gw_of (List.mem_of_getElem? (i := 649) (by decide +kernel)) (by decide +kernel)
theorem mw_650 : Cond.methodLink "java/lang/StringLatin1" 9 ⟨"java/lang/String", "checkIndex", "(II)V"⟩ ∈ gW := gw_of (List.mem_of_getElem? (i := 650) (by decide +kernel)) (by decide +kernel)
theorem mw_651 : Cond.static ⟨"java/lang/String", "checkIndex", "(II)V"⟩ ∈ gW := gw_of (List.mem_of_getElem? (i := 651) (by decide +kernel)) (by decide +kernel)
theorem mw_652 : Cond.code ⟨"java/lang/String", "checkIndex", "(II)V"⟩ prog_23_method_155_code 2 none ∈ gW := gw_of (List.mem_of_getElem? (i := 652) (by decide +kernel)) (by decide +kernel)
theorem mw_653 : Cond.fieldLink "java/lang/String" 1053 "jdk/internal/util/Preconditions" "SIOOBE_FORMATTER" "Ljava/util/function/BiFunction;" ∈ gW := gw_of (List.mem_of_getElem? (i := 653) (by decide +kernel)) (by decide +kernel)
theorem mw_655 : Cond.methodLink "java/lang/String" 1059 ⟨"jdk/internal/util/Preconditions", "checkIndex", "(IILjava/util/function/BiFunction;)I"⟩ ∈ gW := gw_of (List.mem_of_getElem? (i := 655) (by decide +kernel)) (by decide +kernel)
theorem mw_656 : Cond.static ⟨"jdk/internal/util/Preconditions", "checkIndex", "(IILjava/util/function/BiFunction;)I"⟩ ∈ gW := gw_of (List.mem_of_getElem? (i := 656) (by decide +kernel)) (by decide +kernel)
theorem mw_657 : Cond.code ⟨"jdk/internal/util/Preconditions", "checkIndex", "(IILjava/util/function/BiFunction;)I"⟩ prog_28_method_11_code 3 (some .int) ∈ gW := gw_of (List.mem_of_getElem? (i := 657) (by decide +kernel)) (by decide +kernel)
theorem mw_2378 : Cond.fieldLink "java/lang/String" 9 "java/lang/String" "value" "[B" ∈ gW := gw_of (List.mem_of_getElem? (i := 2378) (by decide +kernel)) (by decide +kernel)
theorem mw_2379 : Cond.fieldLink "java/lang/String" 15 "java/lang/String" "coder" "B" ∈ gW := gw_of (List.mem_of_getElem? (i := 2379) (by decide +kernel)) (by decide +kernel)
abbrev b_String_coder : ByteArray := prog_23_method_152_code
abbrev y_String_coder : MethodName := ⟨"java/lang/String", "coder", "()B"⟩
abbrev w_String_coder : List Cond := Cond.code y_String_coder b_String_coder 1 (some .byte) :: gW
theorem d_String_coder_0 : decode b_String_coder 0 = .ok (.getstatic 38, 3) := by decide +kernel
theorem d_String_coder_3 : decode b_String_coder 3 = .ok (.ifCond .eq 10, 3) := by decide +kernel
theorem d_String_coder_6 : decode b_String_coder 6 = .ok (.aload_n 0, 1) := by decide +kernel
theorem d_String_coder_7 : decode b_String_coder 7 = .ok (.getfield 15, 3) := by decide +kernel
theorem d_String_coder_10 : decode b_String_coder 10 = .ok (.goto 4, 3) := by decide +kernel
theorem d_String_coder_13 : decode b_String_coder 13 = .ok (.iconst 1, 1) := by decide +kernel
theorem d_String_coder_14 : decode b_String_coder 14 = .ok (.ireturn, 1) := by decide +kernel
abbrev b_String_length : ByteArray := prog_23_method_54_code
abbrev y_String_length : MethodName := ⟨"java/lang/String", "length", "()I"⟩
abbrev w_String_length : List Cond := Cond.code y_String_length b_String_length 1 (some .int) :: gW
theorem d_String_length_0 : decode b_String_length 0 = .ok (.aload_n 0, 1) := by decide +kernel
theorem d_String_length_1 : decode b_String_length 1 = .ok (.getfield 9, 3) := by decide +kernel
theorem d_String_length_4 : decode b_String_length 4 = .ok (.arraylength, 1) := by decide +kernel
theorem d_String_length_5 : decode b_String_length 5 = .ok (.aload_n 0, 1) := by decide +kernel
theorem d_String_length_6 : decode b_String_length 6 = .ok (.invokevirtual 335, 3) := by decide +kernel
theorem d_String_length_9 : decode b_String_length 9 = .ok (.ishr, 1) := by decide +kernel
theorem d_String_length_10 : decode b_String_length 10 = .ok (.ireturn, 1) := by decide +kernel
abbrev b_String_isLatin1 : ByteArray := prog_23_method_154_code
abbrev y_String_isLatin1 : MethodName := ⟨"java/lang/String", "isLatin1", "()Z"⟩
abbrev w_String_isLatin1 : List Cond := Cond.code y_String_isLatin1 b_String_isLatin1 1 (some .boolean) :: gW
theorem d_String_isLatin1_0 : decode b_String_isLatin1 0 = .ok (.getstatic 38, 3) := by decide +kernel
theorem d_String_isLatin1_3 : decode b_String_isLatin1 3 = .ok (.ifCond .eq 14, 3) := by decide +kernel
theorem d_String_isLatin1_6 : decode b_String_isLatin1 6 = .ok (.aload_n 0, 1) := by decide +kernel
theorem d_String_isLatin1_7 : decode b_String_isLatin1 7 = .ok (.getfield 15, 3) := by decide +kernel
theorem d_String_isLatin1_10 : decode b_String_isLatin1 10 = .ok (.ifCond .ne 7, 3) := by decide +kernel
theorem d_String_isLatin1_13 : decode b_String_isLatin1 13 = .ok (.iconst 1, 1) := by decide +kernel
theorem d_String_isLatin1_14 : decode b_String_isLatin1 14 = .ok (.goto 4, 3) := by decide +kernel
theorem d_String_isLatin1_17 : decode b_String_isLatin1 17 = .ok (.iconst 0, 1) := by decide +kernel
theorem d_String_isLatin1_18 : decode b_String_isLatin1 18 = .ok (.ireturn, 1) := by decide +kernel
abbrev b_Preconditions_checkIndex : ByteArray := prog_28_method_11_code
abbrev y_Preconditions_checkIndex : MethodName := ⟨"jdk/internal/util/Preconditions", "checkIndex", "(IILjava/util/function/BiFunction;)I"⟩
abbrev w_Preconditions_checkIndex : List Cond := Cond.code y_Preconditions_checkIndex b_Preconditions_checkIndex 3 (some .int) :: gW
theorem d_Preconditions_checkIndex_0 : decode b_Preconditions_checkIndex 0 = .ok (.iload_n 0, 1) := by decide +kernel
theorem d_Preconditions_checkIndex_1 : decode b_Preconditions_checkIndex 1 = .ok (.ifCond .lt 8, 3) := by decide +kernel
theorem d_Preconditions_checkIndex_4 : decode b_Preconditions_checkIndex 4 = .ok (.iload_n 0, 1) := by decide +kernel
theorem d_Preconditions_checkIndex_5 : decode b_Preconditions_checkIndex 5 = .ok (.iload_n 1, 1) := by decide +kernel
theorem d_Preconditions_checkIndex_6 : decode b_Preconditions_checkIndex 6 = .ok (.if_icmp .lt 10, 3) := by decide +kernel
theorem d_Preconditions_checkIndex_9 : decode b_Preconditions_checkIndex 9 = .ok (.aload_n 2, 1) := by decide +kernel
theorem d_Preconditions_checkIndex_10 : decode b_Preconditions_checkIndex 10 = .ok (.iload_n 0, 1) := by decide +kernel
theorem d_Preconditions_checkIndex_11 : decode b_Preconditions_checkIndex 11 = .ok (.iload_n 1, 1) := by decide +kernel
theorem d_Preconditions_checkIndex_12 : decode b_Preconditions_checkIndex 12 = .ok (.invokestatic 95, 3) := by decide +kernel
theorem d_Preconditions_checkIndex_15 : decode b_Preconditions_checkIndex 15 = .ok (.athrow, 1) := by decide +kernel
theorem d_Preconditions_checkIndex_16 : decode b_Preconditions_checkIndex 16 = .ok (.iload_n 0, 1) := by decide +kernel
theorem d_Preconditions_checkIndex_17 : decode b_Preconditions_checkIndex 17 = .ok (.ireturn, 1) := by decide +kernel
abbrev b_String_checkIndex : ByteArray := prog_23_method_155_code
abbrev y_String_checkIndex : MethodName := ⟨"java/lang/String", "checkIndex", "(II)V"⟩
abbrev w_String_checkIndex : List Cond := Cond.code y_String_checkIndex b_String_checkIndex 2 none :: gW
theorem d_String_checkIndex_0 : decode b_String_checkIndex 0 = .ok (.iload_n 0, 1) := by decide +kernel
theorem d_String_checkIndex_1 : decode b_String_checkIndex 1 = .ok (.iload_n 1, 1) := by decide +kernel
theorem d_String_checkIndex_2 : decode b_String_checkIndex 2 = .ok (.getstatic 1053, 3) := by decide +kernel
theorem d_String_checkIndex_5 : decode b_String_checkIndex 5 = .ok (.invokestatic 1059, 3) := by decide +kernel
theorem d_String_checkIndex_8 : decode b_String_checkIndex 8 = .ok (.pop, 1) := by decide +kernel
theorem d_String_checkIndex_9 : decode b_String_checkIndex 9 = .ok (.return_, 1) := by decide +kernel
abbrev b_StringLatin1_charAt : ByteArray := prog_24_method_2_code
abbrev y_StringLatin1_charAt : MethodName := ⟨"java/lang/StringLatin1", "charAt", "([BI)C"⟩
abbrev w_StringLatin1_charAt : List Cond := Cond.code y_StringLatin1_charAt b_StringLatin1_charAt 2 (some .char) :: gW
theorem d_StringLatin1_charAt_0 : decode b_StringLatin1_charAt 0 = .ok (.iload_n 1, 1) := by decide +kernel
theorem d_StringLatin1_charAt_1 : decode b_StringLatin1_charAt 1 = .ok (.aload_n 0, 1) := by decide +kernel
theorem d_StringLatin1_charAt_2 : decode b_StringLatin1_charAt 2 = .ok (.arraylength, 1) := by decide +kernel
theorem d_StringLatin1_charAt_3 : decode b_StringLatin1_charAt 3 = .ok (.invokestatic 9, 3) := by decide +kernel
theorem d_StringLatin1_charAt_6 : decode b_StringLatin1_charAt 6 = .ok (.aload_n 0, 1) := by decide +kernel
theorem d_StringLatin1_charAt_7 : decode b_StringLatin1_charAt 7 = .ok (.iload_n 1, 1) := by decide +kernel
theorem d_StringLatin1_charAt_8 : decode b_StringLatin1_charAt 8 = .ok (.baload, 1) := by decide +kernel
theorem d_StringLatin1_charAt_9 : decode b_StringLatin1_charAt 9 = .ok (.sipush 255, 3) := by decide +kernel
theorem d_StringLatin1_charAt_12 : decode b_StringLatin1_charAt 12 = .ok (.iand, 1) := by decide +kernel
theorem d_StringLatin1_charAt_13 : decode b_StringLatin1_charAt 13 = .ok (.i2c, 1) := by decide +kernel
theorem d_StringLatin1_charAt_14 : decode b_StringLatin1_charAt 14 = .ok (.ireturn, 1) := by decide +kernel
abbrev b_String_charAt : ByteArray := prog_23_method_56_code
abbrev y_String_charAt : MethodName := ⟨"java/lang/String", "charAt", "(I)C"⟩
abbrev w_String_charAt : List Cond := Cond.code y_String_charAt b_String_charAt 2 (some .char) :: gW
theorem d_String_charAt_0 : decode b_String_charAt 0 = .ok (.aload_n 0, 1) := by decide +kernel
theorem d_String_charAt_1 : decode b_String_charAt 1 = .ok (.invokevirtual 492, 3) := by decide +kernel
theorem d_String_charAt_4 : decode b_String_charAt 4 = .ok (.ifCond .eq 12, 3) := by decide +kernel
theorem d_String_charAt_7 : decode b_String_charAt 7 = .ok (.aload_n 0, 1) := by decide +kernel
theorem d_String_charAt_8 : decode b_String_charAt 8 = .ok (.getfield 9, 3) := by decide +kernel
theorem d_String_charAt_11 : decode b_String_charAt 11 = .ok (.iload_n 1, 1) := by decide +kernel
theorem d_String_charAt_12 : decode b_String_charAt 12 = .ok (.invokestatic 495, 3) := by decide +kernel
theorem d_String_charAt_15 : decode b_String_charAt 15 = .ok (.ireturn, 1) := by decide +kernel
theorem d_String_charAt_16 : decode b_String_charAt 16 = .ok (.aload_n 0, 1) := by decide +kernel
theorem d_String_charAt_17 : decode b_String_charAt 17 = .ok (.getfield 9, 3) := by decide +kernel
theorem d_String_charAt_20 : decode b_String_charAt 20 = .ok (.iload_n 1, 1) := by decide +kernel
theorem d_String_charAt_21 : decode b_String_charAt 21 = .ok (.invokestatic 498, 3) := by decide +kernel
theorem d_String_charAt_24 : decode b_String_charAt 24 = .ok (.ireturn, 1) := by decide +kernel
