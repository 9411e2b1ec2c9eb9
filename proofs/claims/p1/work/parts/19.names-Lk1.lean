/-! names: methods, their instructions, words -/
theorem mw_19 : Cond.initialized "java/lang/IllegalArgumentException" ∈ gW := gw_of (List.mem_of_getElem? (i := 19) (by decide +kernel)) (by decide +kernel)
theorem mw_27 : Cond.initialized "java/lang/IndexOutOfBoundsException" ∈ gW := gw_of (List.mem_of_getElem? (i := 27) (by decide +kernel)) (by decide +kernel)
theorem mw_51 : Cond.fieldLink "RecordLake" 110 "RecordLake$Bytes" "length" "I" ∈ gW := gw_of (List.mem_of_getElem? (i := 51) (by decide +kernel)) (by decide +kernel)
theorem mw_961 : Cond.code ⟨"RecordLake", "place", "()I"⟩ prog_1_method_7_code 1 (some .int) ∈ gW := gw_of (List.mem_of_getElem? (i := 961) (by decide +kernel)) (by decide +kernel)
theorem mw_1052 : Cond.code ⟨"RecordLake", "end", "(I)V"⟩ prog_1_method_3_code 2 none ∈ gW := gw_of (List.mem_of_getElem? (i := 1052) (by decide +kernel)) (by decide +kernel)
theorem mw_1053 : Cond.classLink "RecordLake" 124 "java/lang/IllegalArgumentException" ∈ gW := gw_of (List.mem_of_getElem? (i := 1053) (by decide +kernel)) (by decide +kernel)
theorem mw_1079 : Cond.code ⟨"RecordLake", "needSubject", "(I)V"⟩ prog_1_method_22_code 1 none ∈ gW := gw_of (List.mem_of_getElem? (i := 1079) (by decide +kernel)) (by decide +kernel)
theorem mw_1080 : Cond.classLink "RecordLake" 171 "java/lang/IndexOutOfBoundsException" ∈ gW := gw_of (List.mem_of_getElem? (i := 1080) (by decide +kernel)) (by decide +kernel)
theorem mw_1499 : Cond.code ⟨"RecordLake", "needWhat", "(II)V"⟩ prog_1_method_24_code 2 none ∈ gW := gw_of (List.mem_of_getElem? (i := 1499) (by decide +kernel)) (by decide +kernel)
abbrev b_Lk_needSubject : ByteArray := prog_1_method_22_code
abbrev y_Lk_needSubject : MethodName := ⟨"RecordLake", "needSubject", "(I)V"⟩
abbrev w_Lk_needSubject : List Cond := Cond.code y_Lk_needSubject b_Lk_needSubject 1 none :: gW
theorem d_Lk_needSubject_0 : decode b_Lk_needSubject 0 = .ok (.iload_n 0, 1) := by decide +kernel
theorem d_Lk_needSubject_1 : decode b_Lk_needSubject 1 = .ok (.ifCond .lt 8, 3) := by decide +kernel
theorem d_Lk_needSubject_4 : decode b_Lk_needSubject 4 = .ok (.iload_n 0, 1) := by decide +kernel
theorem d_Lk_needSubject_5 : decode b_Lk_needSubject 5 = .ok (.iconst 4, 1) := by decide +kernel
theorem d_Lk_needSubject_6 : decode b_Lk_needSubject 6 = .ok (.if_icmp .lt 14, 3) := by decide +kernel
theorem d_Lk_needSubject_9 : decode b_Lk_needSubject 9 = .ok (.new 171, 3) := by decide +kernel
theorem d_Lk_needSubject_12 : decode b_Lk_needSubject 12 = .ok (.dup, 1) := by decide +kernel
theorem d_Lk_needSubject_13 : decode b_Lk_needSubject 13 = .ok (.ldc_w 275, 3) := by decide +kernel
theorem d_Lk_needSubject_16 : decode b_Lk_needSubject 16 = .ok (.invokespecial 175, 3) := by decide +kernel
theorem d_Lk_needSubject_19 : decode b_Lk_needSubject 19 = .ok (.athrow, 1) := by decide +kernel
theorem d_Lk_needSubject_20 : decode b_Lk_needSubject 20 = .ok (.return_, 1) := by decide +kernel
abbrev b_Lk_needWhat : ByteArray := prog_1_method_24_code
abbrev y_Lk_needWhat : MethodName := ⟨"RecordLake", "needWhat", "(II)V"⟩
abbrev w_Lk_needWhat : List Cond := Cond.code y_Lk_needWhat b_Lk_needWhat 2 none :: gW
theorem d_Lk_needWhat_0 : decode b_Lk_needWhat 0 = .ok (.iload_n 0, 1) := by decide +kernel
theorem d_Lk_needWhat_1 : decode b_Lk_needWhat 1 = .ok (.ifCond .lt 8, 3) := by decide +kernel
theorem d_Lk_needWhat_4 : decode b_Lk_needWhat 4 = .ok (.iload_n 0, 1) := by decide +kernel
theorem d_Lk_needWhat_5 : decode b_Lk_needWhat 5 = .ok (.iload_n 1, 1) := by decide +kernel
theorem d_Lk_needWhat_6 : decode b_Lk_needWhat 6 = .ok (.if_icmp .le 14, 3) := by decide +kernel
theorem d_Lk_needWhat_9 : decode b_Lk_needWhat 9 = .ok (.new 124, 3) := by decide +kernel
theorem d_Lk_needWhat_12 : decode b_Lk_needWhat 12 = .ok (.dup, 1) := by decide +kernel
theorem d_Lk_needWhat_13 : decode b_Lk_needWhat 13 = .ok (.ldc_w 279, 3) := by decide +kernel
theorem d_Lk_needWhat_16 : decode b_Lk_needWhat 16 = .ok (.invokespecial 128, 3) := by decide +kernel
theorem d_Lk_needWhat_19 : decode b_Lk_needWhat 19 = .ok (.athrow, 1) := by decide +kernel
theorem d_Lk_needWhat_20 : decode b_Lk_needWhat 20 = .ok (.return_, 1) := by decide +kernel
abbrev b_Lk_place : ByteArray := prog_1_method_7_code
abbrev y_Lk_place : MethodName := ⟨"RecordLake", "place", "()I"⟩
abbrev w_Lk_place : List Cond := Cond.code y_Lk_place b_Lk_place 1 (some .int) :: gW
theorem d_Lk_place_0 : decode b_Lk_place 0 = .ok (.aload_n 0, 1) := by decide +kernel
theorem d_Lk_place_1 : decode b_Lk_place 1 = .ok (.getfield 102, 3) := by decide +kernel
theorem d_Lk_place_4 : decode b_Lk_place 4 = .ok (.ireturn, 1) := by decide +kernel
abbrev b_Lk_end : ByteArray := prog_1_method_3_code
abbrev y_Lk_end : MethodName := ⟨"RecordLake", "end", "(I)V"⟩
abbrev w_Lk_end : List Cond := Cond.code y_Lk_end b_Lk_end 2 none :: gW
theorem d_Lk_end_0 : decode b_Lk_end 0 = .ok (.iload_n 1, 1) := by decide +kernel
theorem d_Lk_end_1 : decode b_Lk_end 1 = .ok (.ifCond .lt 14, 3) := by decide +kernel
theorem d_Lk_end_4 : decode b_Lk_end 4 = .ok (.iload_n 1, 1) := by decide +kernel
theorem d_Lk_end_5 : decode b_Lk_end 5 = .ok (.aload_n 0, 1) := by decide +kernel
theorem d_Lk_end_6 : decode b_Lk_end 6 = .ok (.getfield 14, 3) := by decide +kernel
theorem d_Lk_end_9 : decode b_Lk_end 9 = .ok (.getfield 110, 3) := by decide +kernel
theorem d_Lk_end_12 : decode b_Lk_end 12 = .ok (.if_icmp .le 13, 3) := by decide +kernel
theorem d_Lk_end_15 : decode b_Lk_end 15 = .ok (.new 124, 3) := by decide +kernel
theorem d_Lk_end_18 : decode b_Lk_end 18 = .ok (.dup, 1) := by decide +kernel
theorem d_Lk_end_19 : decode b_Lk_end 19 = .ok (.ldc 126, 2) := by decide +kernel
theorem d_Lk_end_21 : decode b_Lk_end 21 = .ok (.invokespecial 128, 3) := by decide +kernel
theorem d_Lk_end_24 : decode b_Lk_end 24 = .ok (.athrow, 1) := by decide +kernel
theorem d_Lk_end_25 : decode b_Lk_end 25 = .ok (.aload_n 0, 1) := by decide +kernel
theorem d_Lk_end_26 : decode b_Lk_end 26 = .ok (.getfield 14, 3) := by decide +kernel
theorem d_Lk_end_29 : decode b_Lk_end 29 = .ok (.iload_n 1, 1) := by decide +kernel
theorem d_Lk_end_30 : decode b_Lk_end 30 = .ok (.putfield 110, 3) := by decide +kernel
theorem d_Lk_end_33 : decode b_Lk_end 33 = .ok (.return_, 1) := by decide +kernel
