/-! names: methods, their instructions, words -/
theorem mw_1047 : Cond.codeWith ⟨"RecordLakeLaw", "end", "(LRecordLake;I)I"⟩ method_4_code 3 (some .int) [(0, 5, 8, 19)] ∈ gW := gw_of (List.mem_of_getElem? (i := 1047) (by decide +kernel)) (by decide +kernel)
theorem mw_1048 : Cond.classLink "RecordLakeLaw" 19 "java/lang/IllegalArgumentException" ∈ gW := gw_of (List.mem_of_getElem? (i := 1048) (by decide +kernel)) (by decide +kernel)
theorem mw_1049 : Cond.methodLink "RecordLakeLaw" 15 ⟨"RecordLake", "end", "(I)V"⟩ ∈ gW := gw_of (List.mem_of_getElem? (i := 1049) (by decide +kernel)) (by decide +kernel)
theorem mw_1050 : Cond.instanceMethod ⟨"RecordLake", "end", "(I)V"⟩ ∈ gW := gw_of (List.mem_of_getElem? (i := 1050) (by decide +kernel)) (by decide +kernel)
theorem mw_1051 : Cond.selects "RecordLake" ⟨"RecordLake", "end", "(I)V"⟩ ⟨"RecordLake", "end", "(I)V"⟩ ∈ gW := gw_of (List.mem_of_getElem? (i := 1051) (by decide +kernel)) (by decide +kernel)
theorem nw_1055 : Cond.castable "java/lang/IllegalArgumentException" "java/lang/IllegalArgumentException" ∈ nW := nw_of (List.mem_of_getElem? (i := 1055) (by decide +kernel)) rfl
abbrev b_La_end : ByteArray := method_4_code
abbrev y_La_end : MethodName := ⟨"RecordLakeLaw", "end", "(LRecordLake;I)I"⟩
abbrev w_La_end : List Cond := Cond.codeWith y_La_end b_La_end 3 (some .int) [(0, 5, 8, 19)] :: gW
theorem d_La_end_0 : decode b_La_end 0 = .ok (.aload_n 0, 1) := by decide +kernel
theorem d_La_end_1 : decode b_La_end 1 = .ok (.iload_n 1, 1) := by decide +kernel
theorem d_La_end_2 : decode b_La_end 2 = .ok (.invokevirtual 15, 3) := by decide +kernel
theorem d_La_end_5 : decode b_La_end 5 = .ok (.goto 6, 3) := by decide +kernel
theorem d_La_end_8 : decode b_La_end 8 = .ok (.astore_n 2, 1) := by decide +kernel
theorem d_La_end_9 : decode b_La_end 9 = .ok (.iconst 1, 1) := by decide +kernel
theorem d_La_end_10 : decode b_La_end 10 = .ok (.ireturn, 1) := by decide +kernel
theorem d_La_end_11 : decode b_La_end 11 = .ok (.iconst 0, 1) := by decide +kernel
theorem d_La_end_12 : decode b_La_end 12 = .ok (.ireturn, 1) := by decide +kernel
