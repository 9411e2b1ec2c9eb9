/-! names: methods, their instructions, words -/
theorem mw_1176 : Cond.static ⟨"java/lang/Math", "max", "(II)I"⟩ ∈ gW := gw_of (List.mem_of_getElem? (i := 1176) (by decide +kernel)) (by decide +kernel)
theorem mw_1177 : Cond.code ⟨"java/lang/Math", "max", "(II)I"⟩ prog_21_method_65_code 2 (some .int) ∈ gW := gw_of (List.mem_of_getElem? (i := 1177) (by decide +kernel)) (by decide +kernel)
theorem mw_1904 : Cond.code ⟨"java/lang/String", "indexOf", "(I)I"⟩ prog_23_method_79_code 2 (some .int) ∈ gW := gw_of (List.mem_of_getElem? (i := 1904) (by decide +kernel)) (by decide +kernel)
theorem mw_1905 : Cond.methodLink "java/lang/String" 633 ⟨"java/lang/String", "indexOf", "(II)I"⟩ ∈ gW := gw_of (List.mem_of_getElem? (i := 1905) (by decide +kernel)) (by decide +kernel)
theorem mw_1906 : Cond.instanceMethod ⟨"java/lang/String", "indexOf", "(II)I"⟩ ∈ gW := gw_of (List.mem_of_getElem? (i := 1906) (by decide +kernel)) (by decide +kernel)
theorem mw_1907 : Cond.selects "java/lang/String" ⟨"java/lang/String", "indexOf", "(II)I"⟩ ⟨"java/lang/String", "indexOf", "(II)I"⟩ ∈ gW := gw_of (List.mem_of_getElem? (i := 1907) (by decide +kernel)) (by decide +kernel)
theorem mw_1908 : Cond.code ⟨"java/lang/String", "indexOf", "(II)I"⟩ prog_23_method_80_code 3 (some .int) ∈ gW := gw_of (List.mem_of_getElem? (i := 1908) (by decide +kernel)) (by decide +kernel)
theorem mw_1909 : Cond.methodLink "java/lang/String" 505 ⟨"java/lang/String", "length", "()I"⟩ ∈ gW := gw_of (List.mem_of_getElem? (i := 1909) (by decide +kernel)) (by decide +kernel)
theorem mw_1910 : Cond.methodLink "java/lang/String" 637 ⟨"java/lang/StringLatin1", "indexOf", "([BIII)I"⟩ ∈ gW := gw_of (List.mem_of_getElem? (i := 1910) (by decide +kernel)) (by decide +kernel)
theorem mw_1911 : Cond.static ⟨"java/lang/StringLatin1", "indexOf", "([BIII)I"⟩ ∈ gW := gw_of (List.mem_of_getElem? (i := 1911) (by decide +kernel)) (by decide +kernel)
theorem mw_1912 : Cond.code ⟨"java/lang/StringLatin1", "indexOf", "([BIII)I"⟩ prog_24_method_22_code 4 (some .int) ∈ gW := gw_of (List.mem_of_getElem? (i := 1912) (by decide +kernel)) (by decide +kernel)
theorem mw_1913 : Cond.methodLink "java/lang/StringLatin1" 88 ⟨"java/lang/StringLatin1", "canEncode", "(I)Z"⟩ ∈ gW := gw_of (List.mem_of_getElem? (i := 1913) (by decide +kernel)) (by decide +kernel)
theorem mw_1914 : Cond.static ⟨"java/lang/StringLatin1", "canEncode", "(I)Z"⟩ ∈ gW := gw_of (List.mem_of_getElem? (i := 1914) (by decide +kernel)) (by decide +kernel)
theorem mw_1915 : Cond.code ⟨"java/lang/StringLatin1", "canEncode", "(I)Z"⟩ prog_24_method_4_code 1 (some .boolean) ∈ gW := gw_of (List.mem_of_getElem? (i := 1915) (by decide +kernel)) (by decide +kernel)
theorem mw_1916 : Cond.methodLink "java/lang/StringLatin1" 92 ⟨"java/lang/Math", "max", "(II)I"⟩ ∈ gW := gw_of (List.mem_of_getElem? (i := 1916) (by decide +kernel)) (by decide +kernel)
theorem mw_1917 : Cond.methodLink "java/lang/StringLatin1" 38 ⟨"java/lang/Math", "min", "(II)I"⟩ ∈ gW := gw_of (List.mem_of_getElem? (i := 1917) (by decide +kernel)) (by decide +kernel)
theorem mw_1918 : Cond.methodLink "java/lang/StringLatin1" 95 ⟨"java/lang/StringLatin1", "indexOfChar", "([BIII)I"⟩ ∈ gW := gw_of (List.mem_of_getElem? (i := 1918) (by decide +kernel)) (by decide +kernel)
theorem mw_1919 : Cond.static ⟨"java/lang/StringLatin1", "indexOfChar", "([BIII)I"⟩ ∈ gW := gw_of (List.mem_of_getElem? (i := 1919) (by decide +kernel)) (by decide +kernel)
theorem mw_1920 : Cond.code ⟨"java/lang/StringLatin1", "indexOfChar", "([BIII)I"⟩ prog_24_method_23_code 6 (some .int) ∈ gW := gw_of (List.mem_of_getElem? (i := 1920) (by decide +kernel)) (by decide +kernel)
abbrev b_StringLatin1_canEncode : ByteArray := prog_24_method_4_code
abbrev y_StringLatin1_canEncode : MethodName := ⟨"java/lang/StringLatin1", "canEncode", "(I)Z"⟩
abbrev w_StringLatin1_canEncode : List Cond := Cond.code y_StringLatin1_canEncode b_StringLatin1_canEncode 1 (some .boolean) :: gW
theorem d_StringLatin1_canEncode_0 : decode b_StringLatin1_canEncode 0 = .ok (.iload_n 0, 1) := by decide +kernel
theorem d_StringLatin1_canEncode_1 : decode b_StringLatin1_canEncode 1 = .ok (.ifCond .lt 14, 3) := by decide +kernel
theorem d_StringLatin1_canEncode_4 : decode b_StringLatin1_canEncode 4 = .ok (.iload_n 0, 1) := by decide +kernel
theorem d_StringLatin1_canEncode_5 : decode b_StringLatin1_canEncode 5 = .ok (.sipush 255, 3) := by decide +kernel
theorem d_StringLatin1_canEncode_8 : decode b_StringLatin1_canEncode 8 = .ok (.if_icmp .gt 7, 3) := by decide +kernel
theorem d_StringLatin1_canEncode_11 : decode b_StringLatin1_canEncode 11 = .ok (.iconst 1, 1) := by decide +kernel
theorem d_StringLatin1_canEncode_12 : decode b_StringLatin1_canEncode 12 = .ok (.goto 4, 3) := by decide +kernel
theorem d_StringLatin1_canEncode_15 : decode b_StringLatin1_canEncode 15 = .ok (.iconst 0, 1) := by decide +kernel
theorem d_StringLatin1_canEncode_16 : decode b_StringLatin1_canEncode 16 = .ok (.ireturn, 1) := by decide +kernel
abbrev b_StringLatin1_indexOfChar : ByteArray := prog_24_method_23_code
abbrev y_StringLatin1_indexOfChar : MethodName := ⟨"java/lang/StringLatin1", "indexOfChar", "([BIII)I"⟩
abbrev w_StringLatin1_indexOfChar : List Cond := Cond.code y_StringLatin1_indexOfChar b_StringLatin1_indexOfChar 6 (some .int) :: gW
theorem d_StringLatin1_indexOfChar_0 : decode b_StringLatin1_indexOfChar 0 = .ok (.iload_n 1, 1) := by decide +kernel
theorem d_StringLatin1_indexOfChar_1 : decode b_StringLatin1_indexOfChar 1 = .ok (.i2b, 1) := by decide +kernel
theorem d_StringLatin1_indexOfChar_2 : decode b_StringLatin1_indexOfChar 2 = .ok (.istore 4, 2) := by decide +kernel
theorem d_StringLatin1_indexOfChar_4 : decode b_StringLatin1_indexOfChar 4 = .ok (.iload_n 2, 1) := by decide +kernel
theorem d_StringLatin1_indexOfChar_5 : decode b_StringLatin1_indexOfChar 5 = .ok (.istore 5, 2) := by decide +kernel
theorem d_StringLatin1_indexOfChar_7 : decode b_StringLatin1_indexOfChar 7 = .ok (.iload 5, 2) := by decide +kernel
theorem d_StringLatin1_indexOfChar_9 : decode b_StringLatin1_indexOfChar 9 = .ok (.iload_n 3, 1) := by decide +kernel
theorem d_StringLatin1_indexOfChar_10 : decode b_StringLatin1_indexOfChar 10 = .ok (.if_icmp .ge 21, 3) := by decide +kernel
theorem d_StringLatin1_indexOfChar_13 : decode b_StringLatin1_indexOfChar 13 = .ok (.aload_n 0, 1) := by decide +kernel
theorem d_StringLatin1_indexOfChar_14 : decode b_StringLatin1_indexOfChar 14 = .ok (.iload 5, 2) := by decide +kernel
theorem d_StringLatin1_indexOfChar_16 : decode b_StringLatin1_indexOfChar 16 = .ok (.baload, 1) := by decide +kernel
theorem d_StringLatin1_indexOfChar_17 : decode b_StringLatin1_indexOfChar 17 = .ok (.iload 4, 2) := by decide +kernel
theorem d_StringLatin1_indexOfChar_19 : decode b_StringLatin1_indexOfChar 19 = .ok (.if_icmp .ne 6, 3) := by decide +kernel
theorem d_StringLatin1_indexOfChar_22 : decode b_StringLatin1_indexOfChar 22 = .ok (.iload 5, 2) := by decide +kernel
theorem d_StringLatin1_indexOfChar_24 : decode b_StringLatin1_indexOfChar 24 = .ok (.ireturn, 1) := by decide +kernel
theorem d_StringLatin1_indexOfChar_25 : decode b_StringLatin1_indexOfChar 25 = .ok (.iinc 5 1, 3) := by decide +kernel
theorem d_StringLatin1_indexOfChar_28 : decode b_StringLatin1_indexOfChar 28 = .ok (.goto (-21), 3) := by decide +kernel
theorem d_StringLatin1_indexOfChar_31 : decode b_StringLatin1_indexOfChar 31 = .ok (.iconst (-1), 1) := by decide +kernel
theorem d_StringLatin1_indexOfChar_32 : decode b_StringLatin1_indexOfChar 32 = .ok (.ireturn, 1) := by decide +kernel
abbrev b_StringLatin1_indexOf : ByteArray := prog_24_method_22_code
abbrev y_StringLatin1_indexOf : MethodName := ⟨"java/lang/StringLatin1", "indexOf", "([BIII)I"⟩
abbrev w_StringLatin1_indexOf : List Cond := Cond.code y_StringLatin1_indexOf b_StringLatin1_indexOf 4 (some .int) :: gW
theorem d_StringLatin1_indexOf_0 : decode b_StringLatin1_indexOf 0 = .ok (.iload_n 1, 1) := by decide +kernel
theorem d_StringLatin1_indexOf_1 : decode b_StringLatin1_indexOf 1 = .ok (.invokestatic 88, 3) := by decide +kernel
theorem d_StringLatin1_indexOf_4 : decode b_StringLatin1_indexOf 4 = .ok (.ifCond .ne 5, 3) := by decide +kernel
theorem d_StringLatin1_indexOf_7 : decode b_StringLatin1_indexOf 7 = .ok (.iconst (-1), 1) := by decide +kernel
theorem d_StringLatin1_indexOf_8 : decode b_StringLatin1_indexOf 8 = .ok (.ireturn, 1) := by decide +kernel
theorem d_StringLatin1_indexOf_9 : decode b_StringLatin1_indexOf 9 = .ok (.iload_n 2, 1) := by decide +kernel
theorem d_StringLatin1_indexOf_10 : decode b_StringLatin1_indexOf 10 = .ok (.iconst 0, 1) := by decide +kernel
theorem d_StringLatin1_indexOf_11 : decode b_StringLatin1_indexOf 11 = .ok (.invokestatic 92, 3) := by decide +kernel
theorem d_StringLatin1_indexOf_14 : decode b_StringLatin1_indexOf 14 = .ok (.istore_n 2, 1) := by decide +kernel
theorem d_StringLatin1_indexOf_15 : decode b_StringLatin1_indexOf 15 = .ok (.iload_n 3, 1) := by decide +kernel
theorem d_StringLatin1_indexOf_16 : decode b_StringLatin1_indexOf 16 = .ok (.aload_n 0, 1) := by decide +kernel
theorem d_StringLatin1_indexOf_17 : decode b_StringLatin1_indexOf 17 = .ok (.arraylength, 1) := by decide +kernel
theorem d_StringLatin1_indexOf_18 : decode b_StringLatin1_indexOf 18 = .ok (.invokestatic 38, 3) := by decide +kernel
theorem d_StringLatin1_indexOf_21 : decode b_StringLatin1_indexOf 21 = .ok (.istore_n 3, 1) := by decide +kernel
theorem d_StringLatin1_indexOf_22 : decode b_StringLatin1_indexOf 22 = .ok (.iload_n 2, 1) := by decide +kernel
theorem d_StringLatin1_indexOf_23 : decode b_StringLatin1_indexOf 23 = .ok (.iload_n 3, 1) := by decide +kernel
theorem d_StringLatin1_indexOf_24 : decode b_StringLatin1_indexOf 24 = .ok (.if_icmp .lt 5, 3) := by decide +kernel
theorem d_StringLatin1_indexOf_27 : decode b_StringLatin1_indexOf 27 = .ok (.iconst (-1), 1) := by decide +kernel
theorem d_StringLatin1_indexOf_28 : decode b_StringLatin1_indexOf 28 = .ok (.ireturn, 1) := by decide +kernel
theorem d_StringLatin1_indexOf_29 : decode b_StringLatin1_indexOf 29 = .ok (.aload_n 0, 1) := by decide +kernel
theorem d_StringLatin1_indexOf_30 : decode b_StringLatin1_indexOf 30 = .ok (.iload_n 1, 1) := by decide +kernel
theorem d_StringLatin1_indexOf_31 : decode b_StringLatin1_indexOf 31 = .ok (.iload_n 2, 1) := by decide +kernel
theorem d_StringLatin1_indexOf_32 : decode b_StringLatin1_indexOf 32 = .ok (.iload_n 3, 1) := by decide +kernel
theorem d_StringLatin1_indexOf_33 : decode b_StringLatin1_indexOf 33 = .ok (.invokestatic 95, 3) := by decide +kernel
theorem d_StringLatin1_indexOf_36 : decode b_StringLatin1_indexOf 36 = .ok (.ireturn, 1) := by decide +kernel
abbrev b_String_indexOf_2 : ByteArray := prog_23_method_80_code
abbrev y_String_indexOf_2 : MethodName := ⟨"java/lang/String", "indexOf", "(II)I"⟩
abbrev w_String_indexOf_2 : List Cond := Cond.code y_String_indexOf_2 b_String_indexOf_2 3 (some .int) :: gW
theorem d_String_indexOf_2_0 : decode b_String_indexOf_2 0 = .ok (.aload_n 0, 1) := by decide +kernel
theorem d_String_indexOf_2_1 : decode b_String_indexOf_2 1 = .ok (.invokevirtual 492, 3) := by decide +kernel
theorem d_String_indexOf_2_4 : decode b_String_indexOf_2 4 = .ok (.ifCond .eq 19, 3) := by decide +kernel
theorem d_String_indexOf_2_7 : decode b_String_indexOf_2 7 = .ok (.aload_n 0, 1) := by decide +kernel
theorem d_String_indexOf_2_8 : decode b_String_indexOf_2 8 = .ok (.getfield 9, 3) := by decide +kernel
theorem d_String_indexOf_2_11 : decode b_String_indexOf_2 11 = .ok (.iload_n 1, 1) := by decide +kernel
theorem d_String_indexOf_2_12 : decode b_String_indexOf_2 12 = .ok (.iload_n 2, 1) := by decide +kernel
theorem d_String_indexOf_2_13 : decode b_String_indexOf_2 13 = .ok (.aload_n 0, 1) := by decide +kernel
theorem d_String_indexOf_2_14 : decode b_String_indexOf_2 14 = .ok (.invokevirtual 505, 3) := by decide +kernel
theorem d_String_indexOf_2_17 : decode b_String_indexOf_2 17 = .ok (.invokestatic 637, 3) := by decide +kernel
theorem d_String_indexOf_2_20 : decode b_String_indexOf_2 20 = .ok (.goto 16, 3) := by decide +kernel
theorem d_String_indexOf_2_23 : decode b_String_indexOf_2 23 = .ok (.aload_n 0, 1) := by decide +kernel
theorem d_String_indexOf_2_24 : decode b_String_indexOf_2 24 = .ok (.getfield 9, 3) := by decide +kernel
theorem d_String_indexOf_2_27 : decode b_String_indexOf_2 27 = .ok (.iload_n 1, 1) := by decide +kernel
theorem d_String_indexOf_2_28 : decode b_String_indexOf_2 28 = .ok (.iload_n 2, 1) := by decide +kernel
theorem d_String_indexOf_2_29 : decode b_String_indexOf_2 29 = .ok (.aload_n 0, 1) := by decide +kernel
theorem d_String_indexOf_2_30 : decode b_String_indexOf_2 30 = .ok (.invokevirtual 505, 3) := by decide +kernel
theorem d_String_indexOf_2_33 : decode b_String_indexOf_2 33 = .ok (.invokestatic 640, 3) := by decide +kernel
theorem d_String_indexOf_2_36 : decode b_String_indexOf_2 36 = .ok (.ireturn, 1) := by decide +kernel
abbrev b_String_indexOf : ByteArray := prog_23_method_79_code
abbrev y_String_indexOf : MethodName := ⟨"java/lang/String", "indexOf", "(I)I"⟩
abbrev w_String_indexOf : List Cond := Cond.code y_String_indexOf b_String_indexOf 2 (some .int) :: gW
theorem d_String_indexOf_0 : decode b_String_indexOf 0 = .ok (.aload_n 0, 1) := by decide +kernel
theorem d_String_indexOf_1 : decode b_String_indexOf 1 = .ok (.iload_n 1, 1) := by decide +kernel
theorem d_String_indexOf_2 : decode b_String_indexOf 2 = .ok (.iconst 0, 1) := by decide +kernel
theorem d_String_indexOf_3 : decode b_String_indexOf 3 = .ok (.invokevirtual 633, 3) := by decide +kernel
theorem d_String_indexOf_6 : decode b_String_indexOf 6 = .ok (.ireturn, 1) := by decide +kernel
