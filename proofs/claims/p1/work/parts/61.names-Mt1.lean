/-! names: methods, their instructions, words -/
theorem mw_1589 : Cond.fieldLink "RecordLakeModel$Text" 98 "RecordLakeModel$Text" "length" "I" ∈ gW := gw_of (List.mem_of_getElem? (i := 1589) (by decide +kernel)) (by decide +kernel)
theorem mw_1590 : Cond.fieldLink "RecordLakeModel$Text" 95 "RecordLakeModel$Text" "at" "I" ∈ gW := gw_of (List.mem_of_getElem? (i := 1590) (by decide +kernel)) (by decide +kernel)
theorem mw_1865 : Cond.code ⟨"RecordLakeModel$Text", "blanks", "()V"⟩ prog_15_method_5_code 1 none ∈ gW := gw_of (List.mem_of_getElem? (i := 1865) (by decide +kernel)) (by decide +kernel)
theorem mw_1866 : Cond.methodLink "RecordLakeModel$Text" 101 ⟨"RecordLakeModel$Text", "look", "()I"⟩ ∈ gW := gw_of (List.mem_of_getElem? (i := 1866) (by decide +kernel)) (by decide +kernel)
theorem mw_1868 : Cond.instanceMethod ⟨"RecordLakeModel$Text", "look", "()I"⟩ ∈ gW := gw_of (List.mem_of_getElem? (i := 1868) (by decide +kernel)) (by decide +kernel)
theorem mw_1869 : Cond.code ⟨"RecordLakeModel$Text", "look", "()I"⟩ prog_15_method_4_code 1 (some .int) ∈ gW := gw_of (List.mem_of_getElem? (i := 1869) (by decide +kernel)) (by decide +kernel)
theorem ms_101 : Cond.selects "RecordLakeModel$Text" ⟨"RecordLakeModel$Text", "look", "()I"⟩ ⟨"RecordLakeModel$Text", "look", "()I"⟩ ∈ gW := gw_sel (List.mem_of_getElem? (i := 101) (by decide +kernel)) (by decide +kernel)
abbrev b_Mt_look : ByteArray := prog_15_method_4_code
abbrev y_Mt_look : MethodName := ⟨"RecordLakeModel$Text", "look", "()I"⟩
abbrev w_Mt_look : List Cond := Cond.code y_Mt_look b_Mt_look 1 (some .int) :: gW
theorem d_Mt_look_0 : decode b_Mt_look 0 = .ok (.aload_n 0, 1) := by decide +kernel
theorem d_Mt_look_1 : decode b_Mt_look 1 = .ok (.getfield 95, 3) := by decide +kernel
theorem d_Mt_look_4 : decode b_Mt_look 4 = .ok (.aload_n 0, 1) := by decide +kernel
theorem d_Mt_look_5 : decode b_Mt_look 5 = .ok (.getfield 98, 3) := by decide +kernel
theorem d_Mt_look_8 : decode b_Mt_look 8 = .ok (.if_icmp .ge 15, 3) := by decide +kernel
theorem d_Mt_look_11 : decode b_Mt_look 11 = .ok (.aload_n 0, 1) := by decide +kernel
theorem d_Mt_look_12 : decode b_Mt_look 12 = .ok (.getfield 9, 3) := by decide +kernel
theorem d_Mt_look_15 : decode b_Mt_look 15 = .ok (.aload_n 0, 1) := by decide +kernel
theorem d_Mt_look_16 : decode b_Mt_look 16 = .ok (.getfield 95, 3) := by decide +kernel
theorem d_Mt_look_19 : decode b_Mt_look 19 = .ok (.baload, 1) := by decide +kernel
theorem d_Mt_look_20 : decode b_Mt_look 20 = .ok (.goto 4, 3) := by decide +kernel
theorem d_Mt_look_23 : decode b_Mt_look 23 = .ok (.iconst (-1), 1) := by decide +kernel
theorem d_Mt_look_24 : decode b_Mt_look 24 = .ok (.ireturn, 1) := by decide +kernel
abbrev b_Mt_blanks : ByteArray := prog_15_method_5_code
abbrev y_Mt_blanks : MethodName := ⟨"RecordLakeModel$Text", "blanks", "()V"⟩
abbrev w_Mt_blanks : List Cond := Cond.code y_Mt_blanks b_Mt_blanks 1 none :: gW
theorem d_Mt_blanks_0 : decode b_Mt_blanks 0 = .ok (.aload_n 0, 1) := by decide +kernel
theorem d_Mt_blanks_1 : decode b_Mt_blanks 1 = .ok (.invokevirtual 101, 3) := by decide +kernel
theorem d_Mt_blanks_4 : decode b_Mt_blanks 4 = .ok (.bipush 32, 2) := by decide +kernel
theorem d_Mt_blanks_6 : decode b_Mt_blanks 6 = .ok (.if_icmp .eq 30, 3) := by decide +kernel
theorem d_Mt_blanks_9 : decode b_Mt_blanks 9 = .ok (.aload_n 0, 1) := by decide +kernel
theorem d_Mt_blanks_10 : decode b_Mt_blanks 10 = .ok (.invokevirtual 101, 3) := by decide +kernel
theorem d_Mt_blanks_13 : decode b_Mt_blanks 13 = .ok (.bipush 9, 2) := by decide +kernel
theorem d_Mt_blanks_15 : decode b_Mt_blanks 15 = .ok (.if_icmp .eq 21, 3) := by decide +kernel
theorem d_Mt_blanks_18 : decode b_Mt_blanks 18 = .ok (.aload_n 0, 1) := by decide +kernel
theorem d_Mt_blanks_19 : decode b_Mt_blanks 19 = .ok (.invokevirtual 101, 3) := by decide +kernel
theorem d_Mt_blanks_22 : decode b_Mt_blanks 22 = .ok (.bipush 10, 2) := by decide +kernel
theorem d_Mt_blanks_24 : decode b_Mt_blanks 24 = .ok (.if_icmp .eq 12, 3) := by decide +kernel
theorem d_Mt_blanks_27 : decode b_Mt_blanks 27 = .ok (.aload_n 0, 1) := by decide +kernel
theorem d_Mt_blanks_28 : decode b_Mt_blanks 28 = .ok (.invokevirtual 101, 3) := by decide +kernel
theorem d_Mt_blanks_31 : decode b_Mt_blanks 31 = .ok (.bipush 13, 2) := by decide +kernel
theorem d_Mt_blanks_33 : decode b_Mt_blanks 33 = .ok (.if_icmp .ne 16, 3) := by decide +kernel
theorem d_Mt_blanks_36 : decode b_Mt_blanks 36 = .ok (.aload_n 0, 1) := by decide +kernel
theorem d_Mt_blanks_37 : decode b_Mt_blanks 37 = .ok (.dup, 1) := by decide +kernel
theorem d_Mt_blanks_38 : decode b_Mt_blanks 38 = .ok (.getfield 95, 3) := by decide +kernel
theorem d_Mt_blanks_41 : decode b_Mt_blanks 41 = .ok (.iconst 1, 1) := by decide +kernel
theorem d_Mt_blanks_42 : decode b_Mt_blanks 42 = .ok (.iadd, 1) := by decide +kernel
theorem d_Mt_blanks_43 : decode b_Mt_blanks 43 = .ok (.putfield 95, 3) := by decide +kernel
theorem d_Mt_blanks_46 : decode b_Mt_blanks 46 = .ok (.goto (-46), 3) := by decide +kernel
theorem d_Mt_blanks_49 : decode b_Mt_blanks 49 = .ok (.return_, 1) := by decide +kernel
