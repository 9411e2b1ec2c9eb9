/-! names: methods, their instructions, words -/
theorem mw_1716 : Cond.fieldLink "RecordLakeModel" 81 "RecordLakeModel" "thrown" "I" ∈ gW := gw_of (List.mem_of_getElem? (i := 1716) (by decide +kernel)) (by decide +kernel)
theorem mw_1825 : Cond.code ⟨"RecordLakeModel", "thrown", "()I"⟩ prog_14_method_2_code 1 (some .int) ∈ gW := gw_of (List.mem_of_getElem? (i := 1825) (by decide +kernel)) (by decide +kernel)
theorem mw_1833 : Cond.code ⟨"RecordLakeModel", "refused", "(ZZ)Z"⟩ prog_14_method_3_code 3 (some .boolean) ∈ gW := gw_of (List.mem_of_getElem? (i := 1833) (by decide +kernel)) (by decide +kernel)
theorem mw_1844 : Cond.code ⟨"RecordLakeModel", "within", "(III)Z"⟩ prog_14_method_4_code 3 (some .boolean) ∈ gW := gw_of (List.mem_of_getElem? (i := 1844) (by decide +kernel)) (by decide +kernel)
abbrev b_Mo_thrown : ByteArray := prog_14_method_2_code
abbrev y_Mo_thrown : MethodName := ⟨"RecordLakeModel", "thrown", "()I"⟩
abbrev w_Mo_thrown : List Cond := Cond.code y_Mo_thrown b_Mo_thrown 1 (some .int) :: gW
theorem d_Mo_thrown_0 : decode b_Mo_thrown 0 = .ok (.aload_n 0, 1) := by decide +kernel
theorem d_Mo_thrown_1 : decode b_Mo_thrown 1 = .ok (.getfield 81, 3) := by decide +kernel
theorem d_Mo_thrown_4 : decode b_Mo_thrown 4 = .ok (.ireturn, 1) := by decide +kernel
abbrev b_Mo_within : ByteArray := prog_14_method_4_code
abbrev y_Mo_within : MethodName := ⟨"RecordLakeModel", "within", "(III)Z"⟩
abbrev w_Mo_within : List Cond := Cond.code y_Mo_within b_Mo_within 3 (some .boolean) :: gW
theorem d_Mo_within_0 : decode b_Mo_within 0 = .ok (.iload_n 0, 1) := by decide +kernel
theorem d_Mo_within_1 : decode b_Mo_within 1 = .ok (.iload_n 1, 1) := by decide +kernel
theorem d_Mo_within_2 : decode b_Mo_within 2 = .ok (.if_icmp .lt 12, 3) := by decide +kernel
theorem d_Mo_within_5 : decode b_Mo_within 5 = .ok (.iload_n 0, 1) := by decide +kernel
theorem d_Mo_within_6 : decode b_Mo_within 6 = .ok (.iload_n 2, 1) := by decide +kernel
theorem d_Mo_within_7 : decode b_Mo_within 7 = .ok (.if_icmp .gt 7, 3) := by decide +kernel
theorem d_Mo_within_10 : decode b_Mo_within 10 = .ok (.iconst 1, 1) := by decide +kernel
theorem d_Mo_within_11 : decode b_Mo_within 11 = .ok (.goto 4, 3) := by decide +kernel
theorem d_Mo_within_14 : decode b_Mo_within 14 = .ok (.iconst 0, 1) := by decide +kernel
theorem d_Mo_within_15 : decode b_Mo_within 15 = .ok (.ireturn, 1) := by decide +kernel
abbrev b_Mo_refused : ByteArray := prog_14_method_3_code
abbrev y_Mo_refused : MethodName := ⟨"RecordLakeModel", "refused", "(ZZ)Z"⟩
abbrev w_Mo_refused : List Cond := Cond.code y_Mo_refused b_Mo_refused 3 (some .boolean) :: gW
theorem d_Mo_refused_0 : decode b_Mo_refused 0 = .ok (.aload_n 0, 1) := by decide +kernel
theorem d_Mo_refused_1 : decode b_Mo_refused 1 = .ok (.iload_n 1, 1) := by decide +kernel
theorem d_Mo_refused_2 : decode b_Mo_refused 2 = .ok (.ifCond .eq 7, 3) := by decide +kernel
theorem d_Mo_refused_5 : decode b_Mo_refused 5 = .ok (.iconst 1, 1) := by decide +kernel
theorem d_Mo_refused_6 : decode b_Mo_refused 6 = .ok (.goto 12, 3) := by decide +kernel
theorem d_Mo_refused_9 : decode b_Mo_refused 9 = .ok (.iload_n 2, 1) := by decide +kernel
theorem d_Mo_refused_10 : decode b_Mo_refused 10 = .ok (.ifCond .eq 7, 3) := by decide +kernel
theorem d_Mo_refused_13 : decode b_Mo_refused 13 = .ok (.iconst 2, 1) := by decide +kernel
theorem d_Mo_refused_14 : decode b_Mo_refused 14 = .ok (.goto 4, 3) := by decide +kernel
theorem d_Mo_refused_17 : decode b_Mo_refused 17 = .ok (.iconst 0, 1) := by decide +kernel
theorem d_Mo_refused_18 : decode b_Mo_refused 18 = .ok (.putfield 81, 3) := by decide +kernel
theorem d_Mo_refused_21 : decode b_Mo_refused 21 = .ok (.aload_n 0, 1) := by decide +kernel
theorem d_Mo_refused_22 : decode b_Mo_refused 22 = .ok (.getfield 81, 3) := by decide +kernel
theorem d_Mo_refused_25 : decode b_Mo_refused 25 = .ok (.ifCond .le 7, 3) := by decide +kernel
theorem d_Mo_refused_28 : decode b_Mo_refused 28 = .ok (.iconst 1, 1) := by decide +kernel
theorem d_Mo_refused_29 : decode b_Mo_refused 29 = .ok (.goto 4, 3) := by decide +kernel
theorem d_Mo_refused_32 : decode b_Mo_refused 32 = .ok (.iconst 0, 1) := by decide +kernel
theorem d_Mo_refused_33 : decode b_Mo_refused 33 = .ok (.ireturn, 1) := by decide +kernel
