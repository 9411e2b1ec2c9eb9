/-! names: methods, their instructions, words -/
theorem mw_1718 : Cond.fieldLink "RecordLakeModel" 84 "RecordLakeModel" "taped" "I" ∈ gW := gw_of (List.mem_of_getElem? (i := 1718) (by decide +kernel)) (by decide +kernel)
theorem mw_1724 : Cond.fieldLink "RecordLakeModel" 130 "RecordLakeModel" "plainSize" "I" ∈ gW := gw_of (List.mem_of_getElem? (i := 1724) (by decide +kernel)) (by decide +kernel)
theorem mw_1726 : Cond.fieldLink "RecordLakeModel" 378 "RecordLakeModel" "outSize" "I" ∈ gW := gw_of (List.mem_of_getElem? (i := 1726) (by decide +kernel)) (by decide +kernel)
theorem mw_1841 : Cond.code ⟨"RecordLakeModel", "end", "(I)V"⟩ prog_14_method_7_code 2 none ∈ gW := gw_of (List.mem_of_getElem? (i := 1841) (by decide +kernel)) (by decide +kernel)
theorem mw_2106 : Cond.methodLink "RecordLakeModel" 139 ⟨"RecordLakeModel", "versions", "(I)I"⟩ ∈ gW := gw_of (List.mem_of_getElem? (i := 2106) (by decide +kernel)) (by decide +kernel)
theorem mw_2108 : Cond.instanceMethod ⟨"RecordLakeModel", "versions", "(I)I"⟩ ∈ gW := gw_of (List.mem_of_getElem? (i := 2108) (by decide +kernel)) (by decide +kernel)
theorem mw_2238 : Cond.code ⟨"RecordLakeModel", "place", "()I"⟩ prog_14_method_37_code 1 (some .int) ∈ gW := gw_of (List.mem_of_getElem? (i := 2238) (by decide +kernel)) (by decide +kernel)
theorem mw_2254 : Cond.methodLink "RecordLakeModel" 375 ⟨"RecordLakeModel", "rows", "(I)I"⟩ ∈ gW := gw_of (List.mem_of_getElem? (i := 2254) (by decide +kernel)) (by decide +kernel)
theorem mw_2256 : Cond.instanceMethod ⟨"RecordLakeModel", "rows", "(I)I"⟩ ∈ gW := gw_of (List.mem_of_getElem? (i := 2256) (by decide +kernel)) (by decide +kernel)
theorem mw_2318 : Cond.code ⟨"RecordLakeModel", "compact", "(I)I"⟩ prog_14_method_66_code 6 (some .int) ∈ gW := gw_of (List.mem_of_getElem? (i := 2318) (by decide +kernel)) (by decide +kernel)
theorem mw_2334 : Cond.code ⟨"RecordLakeModel", "clear", "(I)I"⟩ prog_14_method_68_code 4 (some .int) ∈ gW := gw_of (List.mem_of_getElem? (i := 2334) (by decide +kernel)) (by decide +kernel)
theorem mw_2338 : Cond.code ⟨"RecordLakeModel", "count", "(II)I"⟩ prog_14_method_69_code 5 (some .int) ∈ gW := gw_of (List.mem_of_getElem? (i := 2338) (by decide +kernel)) (by decide +kernel)
theorem mw_2356 : Cond.code ⟨"RecordLakeModel", "letter", "(II)I"⟩ prog_14_method_71_code 4 (some .int) ∈ gW := gw_of (List.mem_of_getElem? (i := 2356) (by decide +kernel)) (by decide +kernel)
theorem mw_2360 : Cond.code ⟨"RecordLakeModel", "size", "(I)I"⟩ prog_14_method_72_code 2 (some .int) ∈ gW := gw_of (List.mem_of_getElem? (i := 2360) (by decide +kernel)) (by decide +kernel)
theorem mw_2364 : Cond.code ⟨"RecordLakeModel", "file", "(II)I"⟩ prog_14_method_73_code 3 (some .int) ∈ gW := gw_of (List.mem_of_getElem? (i := 2364) (by decide +kernel)) (by decide +kernel)
theorem mw_2368 : Cond.code ⟨"RecordLakeModel", "files", "()I"⟩ prog_14_method_74_code 1 (some .int) ∈ gW := gw_of (List.mem_of_getElem? (i := 2368) (by decide +kernel)) (by decide +kernel)
theorem mw_2372 : Cond.code ⟨"RecordLakeModel", "power", "(I)V"⟩ prog_14_method_75_code 2 none ∈ gW := gw_of (List.mem_of_getElem? (i := 2372) (by decide +kernel)) (by decide +kernel)
theorem mw_2376 : Cond.code ⟨"RecordLakeModel", "start", "()I"⟩ prog_14_method_76_code 1 (some .int) ∈ gW := gw_of (List.mem_of_getElem? (i := 2376) (by decide +kernel)) (by decide +kernel)
theorem ms_134 : Cond.selects "RecordLakeModel" ⟨"RecordLakeModel", "versions", "(I)I"⟩ ⟨"RecordLakeModel", "versions", "(I)I"⟩ ∈ gW := gw_sel (List.mem_of_getElem? (i := 134) (by decide +kernel)) (by decide +kernel)
theorem ms_158 : Cond.selects "RecordLakeModel" ⟨"RecordLakeModel", "rows", "(I)I"⟩ ⟨"RecordLakeModel", "rows", "(I)I"⟩ ∈ gW := gw_sel (List.mem_of_getElem? (i := 158) (by decide +kernel)) (by decide +kernel)
abbrev b_Mo_place : ByteArray := prog_14_method_37_code
abbrev y_Mo_place : MethodName := ⟨"RecordLakeModel", "place", "()I"⟩
abbrev w_Mo_place : List Cond := Cond.code y_Mo_place b_Mo_place 1 (some .int) :: gW
theorem d_Mo_place_0 : decode b_Mo_place 0 = .ok (.aload_n 0, 1) := by decide +kernel
theorem d_Mo_place_1 : decode b_Mo_place 1 = .ok (.iconst 0, 1) := by decide +kernel
theorem d_Mo_place_2 : decode b_Mo_place 2 = .ok (.putfield 81, 3) := by decide +kernel
theorem d_Mo_place_5 : decode b_Mo_place 5 = .ok (.aload_n 0, 1) := by decide +kernel
theorem d_Mo_place_6 : decode b_Mo_place 6 = .ok (.getfield 13, 3) := by decide +kernel
theorem d_Mo_place_9 : decode b_Mo_place 9 = .ok (.ireturn, 1) := by decide +kernel
abbrev b_Mo_files : ByteArray := prog_14_method_74_code
abbrev y_Mo_files : MethodName := ⟨"RecordLakeModel", "files", "()I"⟩
abbrev w_Mo_files : List Cond := Cond.code y_Mo_files b_Mo_files 1 (some .int) :: gW
theorem d_Mo_files_0 : decode b_Mo_files 0 = .ok (.aload_n 0, 1) := by decide +kernel
theorem d_Mo_files_1 : decode b_Mo_files 1 = .ok (.iconst 0, 1) := by decide +kernel
theorem d_Mo_files_2 : decode b_Mo_files 2 = .ok (.putfield 81, 3) := by decide +kernel
theorem d_Mo_files_5 : decode b_Mo_files 5 = .ok (.aload_n 0, 1) := by decide +kernel
theorem d_Mo_files_6 : decode b_Mo_files 6 = .ok (.getfield 111, 3) := by decide +kernel
theorem d_Mo_files_9 : decode b_Mo_files 9 = .ok (.ifCond .eq 8, 3) := by decide +kernel
theorem d_Mo_files_12 : decode b_Mo_files 12 = .ok (.bipush (-33), 2) := by decide +kernel
theorem d_Mo_files_14 : decode b_Mo_files 14 = .ok (.goto 7, 3) := by decide +kernel
theorem d_Mo_files_17 : decode b_Mo_files 17 = .ok (.aload_n 0, 1) := by decide +kernel
theorem d_Mo_files_18 : decode b_Mo_files 18 = .ok (.getfield 78, 3) := by decide +kernel
theorem d_Mo_files_21 : decode b_Mo_files 21 = .ok (.ireturn, 1) := by decide +kernel
abbrev b_Mo_start : ByteArray := prog_14_method_76_code
abbrev y_Mo_start : MethodName := ⟨"RecordLakeModel", "start", "()I"⟩
abbrev w_Mo_start : List Cond := Cond.code y_Mo_start b_Mo_start 1 (some .int) :: gW
theorem d_Mo_start_0 : decode b_Mo_start 0 = .ok (.aload_n 0, 1) := by decide +kernel
theorem d_Mo_start_1 : decode b_Mo_start 1 = .ok (.aload_n 0, 1) := by decide +kernel
theorem d_Mo_start_2 : decode b_Mo_start 2 = .ok (.getfield 111, 3) := by decide +kernel
theorem d_Mo_start_5 : decode b_Mo_start 5 = .ok (.ifCond .ne 7, 3) := by decide +kernel
theorem d_Mo_start_8 : decode b_Mo_start 8 = .ok (.iconst 1, 1) := by decide +kernel
theorem d_Mo_start_9 : decode b_Mo_start 9 = .ok (.goto 4, 3) := by decide +kernel
theorem d_Mo_start_12 : decode b_Mo_start 12 = .ok (.iconst 0, 1) := by decide +kernel
theorem d_Mo_start_13 : decode b_Mo_start 13 = .ok (.iconst 0, 1) := by decide +kernel
theorem d_Mo_start_14 : decode b_Mo_start 14 = .ok (.invokevirtual 87, 3) := by decide +kernel
theorem d_Mo_start_17 : decode b_Mo_start 17 = .ok (.ifCond .eq 5, 3) := by decide +kernel
theorem d_Mo_start_20 : decode b_Mo_start 20 = .ok (.iconst 0, 1) := by decide +kernel
theorem d_Mo_start_21 : decode b_Mo_start 21 = .ok (.ireturn, 1) := by decide +kernel
theorem d_Mo_start_22 : decode b_Mo_start 22 = .ok (.aload_n 0, 1) := by decide +kernel
theorem d_Mo_start_23 : decode b_Mo_start 23 = .ok (.iconst 0, 1) := by decide +kernel
theorem d_Mo_start_24 : decode b_Mo_start 24 = .ok (.putfield 111, 3) := by decide +kernel
theorem d_Mo_start_27 : decode b_Mo_start 27 = .ok (.aload_n 0, 1) := by decide +kernel
theorem d_Mo_start_28 : decode b_Mo_start 28 = .ok (.getfield 78, 3) := by decide +kernel
theorem d_Mo_start_31 : decode b_Mo_start 31 = .ok (.ireturn, 1) := by decide +kernel
abbrev b_Mo_end : ByteArray := prog_14_method_7_code
abbrev y_Mo_end : MethodName := ⟨"RecordLakeModel", "end", "(I)V"⟩
abbrev w_Mo_end : List Cond := Cond.code y_Mo_end b_Mo_end 2 none :: gW
theorem d_Mo_end_0 : decode b_Mo_end 0 = .ok (.aload_n 0, 1) := by decide +kernel
theorem d_Mo_end_1 : decode b_Mo_end 1 = .ok (.iload_n 1, 1) := by decide +kernel
theorem d_Mo_end_2 : decode b_Mo_end 2 = .ok (.iconst 0, 1) := by decide +kernel
theorem d_Mo_end_3 : decode b_Mo_end 3 = .ok (.aload_n 0, 1) := by decide +kernel
theorem d_Mo_end_4 : decode b_Mo_end 4 = .ok (.getfield 84, 3) := by decide +kernel
theorem d_Mo_end_7 : decode b_Mo_end 7 = .ok (.invokestatic 95, 3) := by decide +kernel
theorem d_Mo_end_10 : decode b_Mo_end 10 = .ok (.ifCond .ne 7, 3) := by decide +kernel
theorem d_Mo_end_13 : decode b_Mo_end 13 = .ok (.iconst 1, 1) := by decide +kernel
theorem d_Mo_end_14 : decode b_Mo_end 14 = .ok (.goto 4, 3) := by decide +kernel
theorem d_Mo_end_17 : decode b_Mo_end 17 = .ok (.iconst 0, 1) := by decide +kernel
theorem d_Mo_end_18 : decode b_Mo_end 18 = .ok (.iconst 0, 1) := by decide +kernel
theorem d_Mo_end_19 : decode b_Mo_end 19 = .ok (.invokevirtual 87, 3) := by decide +kernel
theorem d_Mo_end_22 : decode b_Mo_end 22 = .ok (.ifCond .ne 8, 3) := by decide +kernel
theorem d_Mo_end_25 : decode b_Mo_end 25 = .ok (.aload_n 0, 1) := by decide +kernel
theorem d_Mo_end_26 : decode b_Mo_end 26 = .ok (.iload_n 1, 1) := by decide +kernel
theorem d_Mo_end_27 : decode b_Mo_end 27 = .ok (.putfield 84, 3) := by decide +kernel
theorem d_Mo_end_30 : decode b_Mo_end 30 = .ok (.return_, 1) := by decide +kernel
abbrev b_Mo_power : ByteArray := prog_14_method_75_code
abbrev y_Mo_power : MethodName := ⟨"RecordLakeModel", "power", "(I)V"⟩
abbrev w_Mo_power : List Cond := Cond.code y_Mo_power b_Mo_power 2 none :: gW
theorem d_Mo_power_0 : decode b_Mo_power 0 = .ok (.aload_n 0, 1) := by decide +kernel
theorem d_Mo_power_1 : decode b_Mo_power 1 = .ok (.iload_n 1, 1) := by decide +kernel
theorem d_Mo_power_2 : decode b_Mo_power 2 = .ok (.iconst (-1), 1) := by decide +kernel
theorem d_Mo_power_3 : decode b_Mo_power 3 = .ok (.sipush 1000, 3) := by decide +kernel
theorem d_Mo_power_6 : decode b_Mo_power 6 = .ok (.invokestatic 95, 3) := by decide +kernel
theorem d_Mo_power_9 : decode b_Mo_power 9 = .ok (.ifCond .ne 7, 3) := by decide +kernel
theorem d_Mo_power_12 : decode b_Mo_power 12 = .ok (.iconst 1, 1) := by decide +kernel
theorem d_Mo_power_13 : decode b_Mo_power 13 = .ok (.goto 4, 3) := by decide +kernel
theorem d_Mo_power_16 : decode b_Mo_power 16 = .ok (.iconst 0, 1) := by decide +kernel
theorem d_Mo_power_17 : decode b_Mo_power 17 = .ok (.iconst 0, 1) := by decide +kernel
theorem d_Mo_power_18 : decode b_Mo_power 18 = .ok (.invokevirtual 87, 3) := by decide +kernel
theorem d_Mo_power_21 : decode b_Mo_power 21 = .ok (.ifCond .ne 8, 3) := by decide +kernel
theorem d_Mo_power_24 : decode b_Mo_power 24 = .ok (.aload_n 0, 1) := by decide +kernel
theorem d_Mo_power_25 : decode b_Mo_power 25 = .ok (.iload_n 1, 1) := by decide +kernel
theorem d_Mo_power_26 : decode b_Mo_power 26 = .ok (.putfield 36, 3) := by decide +kernel
theorem d_Mo_power_29 : decode b_Mo_power 29 = .ok (.return_, 1) := by decide +kernel
abbrev b_Mo_size : ByteArray := prog_14_method_72_code
abbrev y_Mo_size : MethodName := ⟨"RecordLakeModel", "size", "(I)I"⟩
abbrev w_Mo_size : List Cond := Cond.code y_Mo_size b_Mo_size 2 (some .int) :: gW
theorem d_Mo_size_0 : decode b_Mo_size 0 = .ok (.aload_n 0, 1) := by decide +kernel
theorem d_Mo_size_1 : decode b_Mo_size 1 = .ok (.iload_n 1, 1) := by decide +kernel
theorem d_Mo_size_2 : decode b_Mo_size 2 = .ok (.iconst 0, 1) := by decide +kernel
theorem d_Mo_size_3 : decode b_Mo_size 3 = .ok (.iconst 1, 1) := by decide +kernel
theorem d_Mo_size_4 : decode b_Mo_size 4 = .ok (.invokestatic 95, 3) := by decide +kernel
theorem d_Mo_size_7 : decode b_Mo_size 7 = .ok (.ifCond .ne 7, 3) := by decide +kernel
theorem d_Mo_size_10 : decode b_Mo_size 10 = .ok (.iconst 1, 1) := by decide +kernel
theorem d_Mo_size_11 : decode b_Mo_size 11 = .ok (.goto 4, 3) := by decide +kernel
theorem d_Mo_size_14 : decode b_Mo_size 14 = .ok (.iconst 0, 1) := by decide +kernel
theorem d_Mo_size_15 : decode b_Mo_size 15 = .ok (.iconst 0, 1) := by decide +kernel
theorem d_Mo_size_16 : decode b_Mo_size 16 = .ok (.invokevirtual 87, 3) := by decide +kernel
theorem d_Mo_size_19 : decode b_Mo_size 19 = .ok (.ifCond .eq 7, 3) := by decide +kernel
theorem d_Mo_size_22 : decode b_Mo_size 22 = .ok (.iconst 0, 1) := by decide +kernel
theorem d_Mo_size_23 : decode b_Mo_size 23 = .ok (.goto 18, 3) := by decide +kernel
theorem d_Mo_size_26 : decode b_Mo_size 26 = .ok (.iload_n 1, 1) := by decide +kernel
theorem d_Mo_size_27 : decode b_Mo_size 27 = .ok (.ifCond .ne 10, 3) := by decide +kernel
theorem d_Mo_size_30 : decode b_Mo_size 30 = .ok (.aload_n 0, 1) := by decide +kernel
theorem d_Mo_size_31 : decode b_Mo_size 31 = .ok (.getfield 130, 3) := by decide +kernel
theorem d_Mo_size_34 : decode b_Mo_size 34 = .ok (.goto 7, 3) := by decide +kernel
theorem d_Mo_size_37 : decode b_Mo_size 37 = .ok (.aload_n 0, 1) := by decide +kernel
theorem d_Mo_size_38 : decode b_Mo_size 38 = .ok (.getfield 378, 3) := by decide +kernel
theorem d_Mo_size_41 : decode b_Mo_size 41 = .ok (.ireturn, 1) := by decide +kernel
abbrev b_Mo_letter : ByteArray := prog_14_method_71_code
abbrev y_Mo_letter : MethodName := ⟨"RecordLakeModel", "letter", "(II)I"⟩
abbrev w_Mo_letter : List Cond := Cond.code y_Mo_letter b_Mo_letter 4 (some .int) :: gW
theorem d_Mo_letter_0 : decode b_Mo_letter 0 = .ok (.iload_n 2, 1) := by decide +kernel
theorem d_Mo_letter_1 : decode b_Mo_letter 1 = .ok (.iconst 0, 1) := by decide +kernel
theorem d_Mo_letter_2 : decode b_Mo_letter 2 = .ok (.iconst 1, 1) := by decide +kernel
theorem d_Mo_letter_3 : decode b_Mo_letter 3 = .ok (.invokestatic 95, 3) := by decide +kernel
theorem d_Mo_letter_6 : decode b_Mo_letter 6 = .ok (.ifCond .ne 7, 3) := by decide +kernel
theorem d_Mo_letter_9 : decode b_Mo_letter 9 = .ok (.iconst 1, 1) := by decide +kernel
theorem d_Mo_letter_10 : decode b_Mo_letter 10 = .ok (.goto 4, 3) := by decide +kernel
theorem d_Mo_letter_13 : decode b_Mo_letter 13 = .ok (.iconst 0, 1) := by decide +kernel
theorem d_Mo_letter_14 : decode b_Mo_letter 14 = .ok (.istore_n 3, 1) := by decide +kernel
theorem d_Mo_letter_15 : decode b_Mo_letter 15 = .ok (.aload_n 0, 1) := by decide +kernel
theorem d_Mo_letter_16 : decode b_Mo_letter 16 = .ok (.iload_n 3, 1) := by decide +kernel
theorem d_Mo_letter_17 : decode b_Mo_letter 17 = .ok (.ifCond .ne 32, 3) := by decide +kernel
theorem d_Mo_letter_20 : decode b_Mo_letter 20 = .ok (.iload_n 1, 1) := by decide +kernel
theorem d_Mo_letter_21 : decode b_Mo_letter 21 = .ok (.iconst 0, 1) := by decide +kernel
theorem d_Mo_letter_22 : decode b_Mo_letter 22 = .ok (.iload_n 2, 1) := by decide +kernel
theorem d_Mo_letter_23 : decode b_Mo_letter 23 = .ok (.ifCond .ne 10, 3) := by decide +kernel
theorem d_Mo_letter_26 : decode b_Mo_letter 26 = .ok (.aload_n 0, 1) := by decide +kernel
theorem d_Mo_letter_27 : decode b_Mo_letter 27 = .ok (.getfield 130, 3) := by decide +kernel
theorem d_Mo_letter_30 : decode b_Mo_letter 30 = .ok (.goto 7, 3) := by decide +kernel
theorem d_Mo_letter_33 : decode b_Mo_letter 33 = .ok (.aload_n 0, 1) := by decide +kernel
theorem d_Mo_letter_34 : decode b_Mo_letter 34 = .ok (.getfield 378, 3) := by decide +kernel
theorem d_Mo_letter_37 : decode b_Mo_letter 37 = .ok (.iconst 1, 1) := by decide +kernel
theorem d_Mo_letter_38 : decode b_Mo_letter 38 = .ok (.isub, 1) := by decide +kernel
theorem d_Mo_letter_39 : decode b_Mo_letter 39 = .ok (.invokestatic 95, 3) := by decide +kernel
theorem d_Mo_letter_42 : decode b_Mo_letter 42 = .ok (.ifCond .ne 7, 3) := by decide +kernel
theorem d_Mo_letter_45 : decode b_Mo_letter 45 = .ok (.iconst 1, 1) := by decide +kernel
theorem d_Mo_letter_46 : decode b_Mo_letter 46 = .ok (.goto 4, 3) := by decide +kernel
theorem d_Mo_letter_49 : decode b_Mo_letter 49 = .ok (.iconst 0, 1) := by decide +kernel
theorem d_Mo_letter_50 : decode b_Mo_letter 50 = .ok (.iload_n 3, 1) := by decide +kernel
theorem d_Mo_letter_51 : decode b_Mo_letter 51 = .ok (.invokevirtual 87, 3) := by decide +kernel
theorem d_Mo_letter_54 : decode b_Mo_letter 54 = .ok (.ifCond .eq 5, 3) := by decide +kernel
theorem d_Mo_letter_57 : decode b_Mo_letter 57 = .ok (.iconst 0, 1) := by decide +kernel
theorem d_Mo_letter_58 : decode b_Mo_letter 58 = .ok (.ireturn, 1) := by decide +kernel
theorem d_Mo_letter_59 : decode b_Mo_letter 59 = .ok (.iload_n 2, 1) := by decide +kernel
theorem d_Mo_letter_60 : decode b_Mo_letter 60 = .ok (.ifCond .ne 16, 3) := by decide +kernel
theorem d_Mo_letter_63 : decode b_Mo_letter 63 = .ok (.aload_n 0, 1) := by decide +kernel
theorem d_Mo_letter_64 : decode b_Mo_letter 64 = .ok (.getfield 30, 3) := by decide +kernel
theorem d_Mo_letter_67 : decode b_Mo_letter 67 = .ok (.iload_n 1, 1) := by decide +kernel
theorem d_Mo_letter_68 : decode b_Mo_letter 68 = .ok (.baload, 1) := by decide +kernel
theorem d_Mo_letter_69 : decode b_Mo_letter 69 = .ok (.sipush 255, 3) := by decide +kernel
theorem d_Mo_letter_72 : decode b_Mo_letter 72 = .ok (.iand, 1) := by decide +kernel
theorem d_Mo_letter_73 : decode b_Mo_letter 73 = .ok (.goto 13, 3) := by decide +kernel
theorem d_Mo_letter_76 : decode b_Mo_letter 76 = .ok (.aload_n 0, 1) := by decide +kernel
theorem d_Mo_letter_77 : decode b_Mo_letter 77 = .ok (.getfield 33, 3) := by decide +kernel
theorem d_Mo_letter_80 : decode b_Mo_letter 80 = .ok (.iload_n 1, 1) := by decide +kernel
theorem d_Mo_letter_81 : decode b_Mo_letter 81 = .ok (.baload, 1) := by decide +kernel
theorem d_Mo_letter_82 : decode b_Mo_letter 82 = .ok (.sipush 255, 3) := by decide +kernel
theorem d_Mo_letter_85 : decode b_Mo_letter 85 = .ok (.iand, 1) := by decide +kernel
theorem d_Mo_letter_86 : decode b_Mo_letter 86 = .ok (.ireturn, 1) := by decide +kernel
abbrev b_Mo_clear : ByteArray := prog_14_method_68_code
abbrev y_Mo_clear : MethodName := ⟨"RecordLakeModel", "clear", "(I)I"⟩
abbrev w_Mo_clear : List Cond := Cond.code y_Mo_clear b_Mo_clear 4 (some .int) :: gW
theorem d_Mo_clear_0 : decode b_Mo_clear 0 = .ok (.aload_n 0, 1) := by decide +kernel
theorem d_Mo_clear_1 : decode b_Mo_clear 1 = .ok (.iload_n 1, 1) := by decide +kernel
theorem d_Mo_clear_2 : decode b_Mo_clear 2 = .ok (.invokestatic 136, 3) := by decide +kernel
theorem d_Mo_clear_5 : decode b_Mo_clear 5 = .ok (.ifCond .ne 7, 3) := by decide +kernel
theorem d_Mo_clear_8 : decode b_Mo_clear 8 = .ok (.iconst 1, 1) := by decide +kernel
theorem d_Mo_clear_9 : decode b_Mo_clear 9 = .ok (.goto 4, 3) := by decide +kernel
theorem d_Mo_clear_12 : decode b_Mo_clear 12 = .ok (.iconst 0, 1) := by decide +kernel
theorem d_Mo_clear_13 : decode b_Mo_clear 13 = .ok (.iconst 0, 1) := by decide +kernel
theorem d_Mo_clear_14 : decode b_Mo_clear 14 = .ok (.invokevirtual 87, 3) := by decide +kernel
theorem d_Mo_clear_17 : decode b_Mo_clear 17 = .ok (.ifCond .eq 5, 3) := by decide +kernel
theorem d_Mo_clear_20 : decode b_Mo_clear 20 = .ok (.iconst 0, 1) := by decide +kernel
theorem d_Mo_clear_21 : decode b_Mo_clear 21 = .ok (.ireturn, 1) := by decide +kernel
theorem d_Mo_clear_22 : decode b_Mo_clear 22 = .ok (.aload_n 0, 1) := by decide +kernel
theorem d_Mo_clear_23 : decode b_Mo_clear 23 = .ok (.getfield 111, 3) := by decide +kernel
theorem d_Mo_clear_26 : decode b_Mo_clear 26 = .ok (.ifCond .eq 6, 3) := by decide +kernel
theorem d_Mo_clear_29 : decode b_Mo_clear 29 = .ok (.bipush (-33), 2) := by decide +kernel
theorem d_Mo_clear_31 : decode b_Mo_clear 31 = .ok (.ireturn, 1) := by decide +kernel
theorem d_Mo_clear_32 : decode b_Mo_clear 32 = .ok (.aload_n 0, 1) := by decide +kernel
theorem d_Mo_clear_33 : decode b_Mo_clear 33 = .ok (.iload_n 1, 1) := by decide +kernel
theorem d_Mo_clear_34 : decode b_Mo_clear 34 = .ok (.invokevirtual 375, 3) := by decide +kernel
theorem d_Mo_clear_37 : decode b_Mo_clear 37 = .ok (.istore_n 2, 1) := by decide +kernel
theorem d_Mo_clear_38 : decode b_Mo_clear 38 = .ok (.iload_n 2, 1) := by decide +kernel
theorem d_Mo_clear_39 : decode b_Mo_clear 39 = .ok (.ifCond .ne 5, 3) := by decide +kernel
theorem d_Mo_clear_42 : decode b_Mo_clear 42 = .ok (.iconst 0, 1) := by decide +kernel
theorem d_Mo_clear_43 : decode b_Mo_clear 43 = .ok (.ireturn, 1) := by decide +kernel
theorem d_Mo_clear_44 : decode b_Mo_clear 44 = .ok (.aload_n 0, 1) := by decide +kernel
theorem d_Mo_clear_45 : decode b_Mo_clear 45 = .ok (.iconst 1, 1) := by decide +kernel
theorem d_Mo_clear_46 : decode b_Mo_clear 46 = .ok (.invokevirtual 122, 3) := by decide +kernel
theorem d_Mo_clear_49 : decode b_Mo_clear 49 = .ok (.ifCond .ne 6, 3) := by decide +kernel
theorem d_Mo_clear_52 : decode b_Mo_clear 52 = .ok (.bipush (-32), 2) := by decide +kernel
theorem d_Mo_clear_54 : decode b_Mo_clear 54 = .ok (.ireturn, 1) := by decide +kernel
theorem d_Mo_clear_55 : decode b_Mo_clear 55 = .ok (.aload_n 0, 1) := by decide +kernel
theorem d_Mo_clear_56 : decode b_Mo_clear 56 = .ok (.getfield 78, 3) := by decide +kernel
theorem d_Mo_clear_59 : decode b_Mo_clear 59 = .ok (.iconst 1, 1) := by decide +kernel
theorem d_Mo_clear_60 : decode b_Mo_clear 60 = .ok (.isub, 1) := by decide +kernel
theorem d_Mo_clear_61 : decode b_Mo_clear 61 = .ok (.istore_n 3, 1) := by decide +kernel
theorem d_Mo_clear_62 : decode b_Mo_clear 62 = .ok (.iload_n 3, 1) := by decide +kernel
theorem d_Mo_clear_63 : decode b_Mo_clear 63 = .ok (.ifCond .lt 33, 3) := by decide +kernel
theorem d_Mo_clear_66 : decode b_Mo_clear 66 = .ok (.aload_n 0, 1) := by decide +kernel
theorem d_Mo_clear_67 : decode b_Mo_clear 67 = .ok (.getfield 39, 3) := by decide +kernel
theorem d_Mo_clear_70 : decode b_Mo_clear 70 = .ok (.iload_n 3, 1) := by decide +kernel
theorem d_Mo_clear_71 : decode b_Mo_clear 71 = .ok (.iaload, 1) := by decide +kernel
theorem d_Mo_clear_72 : decode b_Mo_clear 72 = .ok (.iload_n 1, 1) := by decide +kernel
theorem d_Mo_clear_73 : decode b_Mo_clear 73 = .ok (.if_icmp .ne 17, 3) := by decide +kernel
theorem d_Mo_clear_76 : decode b_Mo_clear 76 = .ok (.aload_n 0, 1) := by decide +kernel
theorem d_Mo_clear_77 : decode b_Mo_clear 77 = .ok (.getfield 52, 3) := by decide +kernel
theorem d_Mo_clear_80 : decode b_Mo_clear 80 = .ok (.iload_n 3, 1) := by decide +kernel
theorem d_Mo_clear_81 : decode b_Mo_clear 81 = .ok (.iaload, 1) := by decide +kernel
theorem d_Mo_clear_82 : decode b_Mo_clear 82 = .ok (.ifCond .lt 8, 3) := by decide +kernel
theorem d_Mo_clear_85 : decode b_Mo_clear 85 = .ok (.aload_n 0, 1) := by decide +kernel
theorem d_Mo_clear_86 : decode b_Mo_clear 86 = .ok (.iload_n 3, 1) := by decide +kernel
theorem d_Mo_clear_87 : decode b_Mo_clear 87 = .ok (.invokevirtual 397, 3) := by decide +kernel
theorem d_Mo_clear_90 : decode b_Mo_clear 90 = .ok (.iinc 3 (-1), 3) := by decide +kernel
theorem d_Mo_clear_93 : decode b_Mo_clear 93 = .ok (.goto (-31), 3) := by decide +kernel
theorem d_Mo_clear_96 : decode b_Mo_clear 96 = .ok (.iload_n 2, 1) := by decide +kernel
theorem d_Mo_clear_97 : decode b_Mo_clear 97 = .ok (.ireturn, 1) := by decide +kernel
abbrev b_Mo_compact : ByteArray := prog_14_method_66_code
abbrev y_Mo_compact : MethodName := ⟨"RecordLakeModel", "compact", "(I)I"⟩
abbrev w_Mo_compact : List Cond := Cond.code y_Mo_compact b_Mo_compact 6 (some .int) :: gW
theorem d_Mo_compact_0 : decode b_Mo_compact 0 = .ok (.aload_n 0, 1) := by decide +kernel
theorem d_Mo_compact_1 : decode b_Mo_compact 1 = .ok (.iload_n 1, 1) := by decide +kernel
theorem d_Mo_compact_2 : decode b_Mo_compact 2 = .ok (.invokestatic 136, 3) := by decide +kernel
theorem d_Mo_compact_5 : decode b_Mo_compact 5 = .ok (.ifCond .ne 7, 3) := by decide +kernel
theorem d_Mo_compact_8 : decode b_Mo_compact 8 = .ok (.iconst 1, 1) := by decide +kernel
theorem d_Mo_compact_9 : decode b_Mo_compact 9 = .ok (.goto 4, 3) := by decide +kernel
theorem d_Mo_compact_12 : decode b_Mo_compact 12 = .ok (.iconst 0, 1) := by decide +kernel
theorem d_Mo_compact_13 : decode b_Mo_compact 13 = .ok (.iconst 0, 1) := by decide +kernel
theorem d_Mo_compact_14 : decode b_Mo_compact 14 = .ok (.invokevirtual 87, 3) := by decide +kernel
theorem d_Mo_compact_17 : decode b_Mo_compact 17 = .ok (.ifCond .eq 5, 3) := by decide +kernel
theorem d_Mo_compact_20 : decode b_Mo_compact 20 = .ok (.iconst 0, 1) := by decide +kernel
theorem d_Mo_compact_21 : decode b_Mo_compact 21 = .ok (.ireturn, 1) := by decide +kernel
theorem d_Mo_compact_22 : decode b_Mo_compact 22 = .ok (.aload_n 0, 1) := by decide +kernel
theorem d_Mo_compact_23 : decode b_Mo_compact 23 = .ok (.getfield 111, 3) := by decide +kernel
theorem d_Mo_compact_26 : decode b_Mo_compact 26 = .ok (.ifCond .eq 6, 3) := by decide +kernel
theorem d_Mo_compact_29 : decode b_Mo_compact 29 = .ok (.bipush (-33), 2) := by decide +kernel
theorem d_Mo_compact_31 : decode b_Mo_compact 31 = .ok (.ireturn, 1) := by decide +kernel
theorem d_Mo_compact_32 : decode b_Mo_compact 32 = .ok (.iconst (-1), 1) := by decide +kernel
theorem d_Mo_compact_33 : decode b_Mo_compact 33 = .ok (.istore_n 2, 1) := by decide +kernel
theorem d_Mo_compact_34 : decode b_Mo_compact 34 = .ok (.iconst 0, 1) := by decide +kernel
theorem d_Mo_compact_35 : decode b_Mo_compact 35 = .ok (.istore_n 3, 1) := by decide +kernel
theorem d_Mo_compact_36 : decode b_Mo_compact 36 = .ok (.iload_n 3, 1) := by decide +kernel
theorem d_Mo_compact_37 : decode b_Mo_compact 37 = .ok (.aload_n 0, 1) := by decide +kernel
theorem d_Mo_compact_38 : decode b_Mo_compact 38 = .ok (.getfield 78, 3) := by decide +kernel
theorem d_Mo_compact_41 : decode b_Mo_compact 41 = .ok (.if_icmp .ge 108, 3) := by decide +kernel
theorem d_Mo_compact_44 : decode b_Mo_compact 44 = .ok (.aload_n 0, 1) := by decide +kernel
theorem d_Mo_compact_45 : decode b_Mo_compact 45 = .ok (.getfield 39, 3) := by decide +kernel
theorem d_Mo_compact_48 : decode b_Mo_compact 48 = .ok (.iload_n 3, 1) := by decide +kernel
theorem d_Mo_compact_49 : decode b_Mo_compact 49 = .ok (.iaload, 1) := by decide +kernel
theorem d_Mo_compact_50 : decode b_Mo_compact 50 = .ok (.iload_n 1, 1) := by decide +kernel
theorem d_Mo_compact_51 : decode b_Mo_compact 51 = .ok (.if_icmp .ne 92, 3) := by decide +kernel
theorem d_Mo_compact_54 : decode b_Mo_compact 54 = .ok (.aload_n 0, 1) := by decide +kernel
theorem d_Mo_compact_55 : decode b_Mo_compact 55 = .ok (.getfield 52, 3) := by decide +kernel
theorem d_Mo_compact_58 : decode b_Mo_compact 58 = .ok (.iload_n 3, 1) := by decide +kernel
theorem d_Mo_compact_59 : decode b_Mo_compact 59 = .ok (.iaload, 1) := by decide +kernel
theorem d_Mo_compact_60 : decode b_Mo_compact 60 = .ok (.ifCond .lt 83, 3) := by decide +kernel
theorem d_Mo_compact_63 : decode b_Mo_compact 63 = .ok (.iload_n 2, 1) := by decide +kernel
theorem d_Mo_compact_64 : decode b_Mo_compact 64 = .ok (.ifCond .lt 77, 3) := by decide +kernel
theorem d_Mo_compact_67 : decode b_Mo_compact 67 = .ok (.aload_n 0, 1) := by decide +kernel
theorem d_Mo_compact_68 : decode b_Mo_compact 68 = .ok (.iload_n 1, 1) := by decide +kernel
theorem d_Mo_compact_69 : decode b_Mo_compact 69 = .ok (.aload_n 0, 1) := by decide +kernel
theorem d_Mo_compact_70 : decode b_Mo_compact 70 = .ok (.getfield 43, 3) := by decide +kernel
theorem d_Mo_compact_73 : decode b_Mo_compact 73 = .ok (.iload_n 2, 1) := by decide +kernel
theorem d_Mo_compact_74 : decode b_Mo_compact 74 = .ok (.iaload, 1) := by decide +kernel
theorem d_Mo_compact_75 : decode b_Mo_compact 75 = .ok (.aload_n 0, 1) := by decide +kernel
theorem d_Mo_compact_76 : decode b_Mo_compact 76 = .ok (.getfield 43, 3) := by decide +kernel
theorem d_Mo_compact_79 : decode b_Mo_compact 79 = .ok (.iload_n 3, 1) := by decide +kernel
theorem d_Mo_compact_80 : decode b_Mo_compact 80 = .ok (.iaload, 1) := by decide +kernel
theorem d_Mo_compact_81 : decode b_Mo_compact 81 = .ok (.invokevirtual 390, 3) := by decide +kernel
theorem d_Mo_compact_84 : decode b_Mo_compact 84 = .ok (.ifCond .eq 57, 3) := by decide +kernel
theorem d_Mo_compact_87 : decode b_Mo_compact 87 = .ok (.aload_n 0, 1) := by decide +kernel
theorem d_Mo_compact_88 : decode b_Mo_compact 88 = .ok (.getfield 55, 3) := by decide +kernel
theorem d_Mo_compact_91 : decode b_Mo_compact 91 = .ok (.iload_n 2, 1) := by decide +kernel
theorem d_Mo_compact_92 : decode b_Mo_compact 92 = .ok (.iaload, 1) := by decide +kernel
theorem d_Mo_compact_93 : decode b_Mo_compact 93 = .ok (.aload_n 0, 1) := by decide +kernel
theorem d_Mo_compact_94 : decode b_Mo_compact 94 = .ok (.getfield 55, 3) := by decide +kernel
theorem d_Mo_compact_97 : decode b_Mo_compact 97 = .ok (.iload_n 3, 1) := by decide +kernel
theorem d_Mo_compact_98 : decode b_Mo_compact 98 = .ok (.iaload, 1) := by decide +kernel
theorem d_Mo_compact_99 : decode b_Mo_compact 99 = .ok (.iadd, 1) := by decide +kernel
theorem d_Mo_compact_100 : decode b_Mo_compact 100 = .ok (.istore 4, 2) := by decide +kernel
theorem d_Mo_compact_102 : decode b_Mo_compact 102 = .ok (.aload_n 0, 1) := by decide +kernel
theorem d_Mo_compact_103 : decode b_Mo_compact 103 = .ok (.getfield 52, 3) := by decide +kernel
theorem d_Mo_compact_106 : decode b_Mo_compact 106 = .ok (.iload_n 2, 1) := by decide +kernel
theorem d_Mo_compact_107 : decode b_Mo_compact 107 = .ok (.iaload, 1) := by decide +kernel
theorem d_Mo_compact_108 : decode b_Mo_compact 108 = .ok (.aload_n 0, 1) := by decide +kernel
theorem d_Mo_compact_109 : decode b_Mo_compact 109 = .ok (.getfield 52, 3) := by decide +kernel
theorem d_Mo_compact_112 : decode b_Mo_compact 112 = .ok (.iload_n 3, 1) := by decide +kernel
theorem d_Mo_compact_113 : decode b_Mo_compact 113 = .ok (.iaload, 1) := by decide +kernel
theorem d_Mo_compact_114 : decode b_Mo_compact 114 = .ok (.iadd, 1) := by decide +kernel
theorem d_Mo_compact_115 : decode b_Mo_compact 115 = .ok (.iload 4, 2) := by decide +kernel
theorem d_Mo_compact_117 : decode b_Mo_compact 117 = .ok (.invokestatic 263, 3) := by decide +kernel
theorem d_Mo_compact_120 : decode b_Mo_compact 120 = .ok (.istore 5, 2) := by decide +kernel
theorem d_Mo_compact_122 : decode b_Mo_compact 122 = .ok (.iload 5, 2) := by decide +kernel
theorem d_Mo_compact_124 : decode b_Mo_compact 124 = .ok (.sipush 4096, 3) := by decide +kernel
theorem d_Mo_compact_127 : decode b_Mo_compact 127 = .ok (.if_icmp .gt 14, 3) := by decide +kernel
theorem d_Mo_compact_130 : decode b_Mo_compact 130 = .ok (.aload_n 0, 1) := by decide +kernel
theorem d_Mo_compact_131 : decode b_Mo_compact 131 = .ok (.iload_n 2, 1) := by decide +kernel
theorem d_Mo_compact_132 : decode b_Mo_compact 132 = .ok (.iload_n 3, 1) := by decide +kernel
theorem d_Mo_compact_133 : decode b_Mo_compact 133 = .ok (.iload 4, 2) := by decide +kernel
theorem d_Mo_compact_135 : decode b_Mo_compact 135 = .ok (.iload 5, 2) := by decide +kernel
theorem d_Mo_compact_137 : decode b_Mo_compact 137 = .ok (.invokevirtual 393, 3) := by decide +kernel
theorem d_Mo_compact_140 : decode b_Mo_compact 140 = .ok (.ireturn, 1) := by decide +kernel
theorem d_Mo_compact_141 : decode b_Mo_compact 141 = .ok (.iload_n 3, 1) := by decide +kernel
theorem d_Mo_compact_142 : decode b_Mo_compact 142 = .ok (.istore_n 2, 1) := by decide +kernel
theorem d_Mo_compact_143 : decode b_Mo_compact 143 = .ok (.iinc 3 1, 3) := by decide +kernel
theorem d_Mo_compact_146 : decode b_Mo_compact 146 = .ok (.goto (-110), 3) := by decide +kernel
theorem d_Mo_compact_149 : decode b_Mo_compact 149 = .ok (.iconst 0, 1) := by decide +kernel
theorem d_Mo_compact_150 : decode b_Mo_compact 150 = .ok (.ireturn, 1) := by decide +kernel
abbrev b_Mo_count : ByteArray := prog_14_method_69_code
abbrev y_Mo_count : MethodName := ⟨"RecordLakeModel", "count", "(II)I"⟩
abbrev w_Mo_count : List Cond := Cond.code y_Mo_count b_Mo_count 5 (some .int) :: gW
theorem d_Mo_count_0 : decode b_Mo_count 0 = .ok (.aload_n 0, 1) := by decide +kernel
theorem d_Mo_count_1 : decode b_Mo_count 1 = .ok (.iload_n 1, 1) := by decide +kernel
theorem d_Mo_count_2 : decode b_Mo_count 2 = .ok (.invokestatic 136, 3) := by decide +kernel
theorem d_Mo_count_5 : decode b_Mo_count 5 = .ok (.ifCond .ne 7, 3) := by decide +kernel
theorem d_Mo_count_8 : decode b_Mo_count 8 = .ok (.iconst 1, 1) := by decide +kernel
theorem d_Mo_count_9 : decode b_Mo_count 9 = .ok (.goto 4, 3) := by decide +kernel
theorem d_Mo_count_12 : decode b_Mo_count 12 = .ok (.iconst 0, 1) := by decide +kernel
theorem d_Mo_count_13 : decode b_Mo_count 13 = .ok (.iload_n 2, 1) := by decide +kernel
theorem d_Mo_count_14 : decode b_Mo_count 14 = .ok (.iconst 0, 1) := by decide +kernel
theorem d_Mo_count_15 : decode b_Mo_count 15 = .ok (.iconst 2, 1) := by decide +kernel
theorem d_Mo_count_16 : decode b_Mo_count 16 = .ok (.invokestatic 95, 3) := by decide +kernel
theorem d_Mo_count_19 : decode b_Mo_count 19 = .ok (.ifCond .ne 7, 3) := by decide +kernel
theorem d_Mo_count_22 : decode b_Mo_count 22 = .ok (.iconst 1, 1) := by decide +kernel
theorem d_Mo_count_23 : decode b_Mo_count 23 = .ok (.goto 4, 3) := by decide +kernel
theorem d_Mo_count_26 : decode b_Mo_count 26 = .ok (.iconst 0, 1) := by decide +kernel
theorem d_Mo_count_27 : decode b_Mo_count 27 = .ok (.invokevirtual 87, 3) := by decide +kernel
theorem d_Mo_count_30 : decode b_Mo_count 30 = .ok (.ifCond .eq 5, 3) := by decide +kernel
theorem d_Mo_count_33 : decode b_Mo_count 33 = .ok (.iconst 0, 1) := by decide +kernel
theorem d_Mo_count_34 : decode b_Mo_count 34 = .ok (.ireturn, 1) := by decide +kernel
theorem d_Mo_count_35 : decode b_Mo_count 35 = .ok (.aload_n 0, 1) := by decide +kernel
theorem d_Mo_count_36 : decode b_Mo_count 36 = .ok (.getfield 111, 3) := by decide +kernel
theorem d_Mo_count_39 : decode b_Mo_count 39 = .ok (.ifCond .eq 6, 3) := by decide +kernel
theorem d_Mo_count_42 : decode b_Mo_count 42 = .ok (.bipush (-33), 2) := by decide +kernel
theorem d_Mo_count_44 : decode b_Mo_count 44 = .ok (.ireturn, 1) := by decide +kernel
theorem d_Mo_count_45 : decode b_Mo_count 45 = .ok (.iconst 0, 1) := by decide +kernel
theorem d_Mo_count_46 : decode b_Mo_count 46 = .ok (.istore_n 3, 1) := by decide +kernel
theorem d_Mo_count_47 : decode b_Mo_count 47 = .ok (.iconst 0, 1) := by decide +kernel
theorem d_Mo_count_48 : decode b_Mo_count 48 = .ok (.istore 4, 2) := by decide +kernel
theorem d_Mo_count_50 : decode b_Mo_count 50 = .ok (.iload 4, 2) := by decide +kernel
theorem d_Mo_count_52 : decode b_Mo_count 52 = .ok (.aload_n 0, 1) := by decide +kernel
theorem d_Mo_count_53 : decode b_Mo_count 53 = .ok (.getfield 78, 3) := by decide +kernel
theorem d_Mo_count_56 : decode b_Mo_count 56 = .ok (.if_icmp .ge 38, 3) := by decide +kernel
theorem d_Mo_count_59 : decode b_Mo_count 59 = .ok (.aload_n 0, 1) := by decide +kernel
theorem d_Mo_count_60 : decode b_Mo_count 60 = .ok (.getfield 39, 3) := by decide +kernel
theorem d_Mo_count_63 : decode b_Mo_count 63 = .ok (.iload 4, 2) := by decide +kernel
theorem d_Mo_count_65 : decode b_Mo_count 65 = .ok (.iaload, 1) := by decide +kernel
theorem d_Mo_count_66 : decode b_Mo_count 66 = .ok (.iload_n 1, 1) := by decide +kernel
theorem d_Mo_count_67 : decode b_Mo_count 67 = .ok (.if_icmp .ne 19, 3) := by decide +kernel
theorem d_Mo_count_70 : decode b_Mo_count 70 = .ok (.aload_n 0, 1) := by decide +kernel
theorem d_Mo_count_71 : decode b_Mo_count 71 = .ok (.getfield 52, 3) := by decide +kernel
theorem d_Mo_count_74 : decode b_Mo_count 74 = .ok (.iload 4, 2) := by decide +kernel
theorem d_Mo_count_76 : decode b_Mo_count 76 = .ok (.iaload, 1) := by decide +kernel
theorem d_Mo_count_77 : decode b_Mo_count 77 = .ok (.ifCond .lt 9, 3) := by decide +kernel
theorem d_Mo_count_80 : decode b_Mo_count 80 = .ok (.iload_n 3, 1) := by decide +kernel
theorem d_Mo_count_81 : decode b_Mo_count 81 = .ok (.iconst 1, 1) := by decide +kernel
theorem d_Mo_count_82 : decode b_Mo_count 82 = .ok (.iadd, 1) := by decide +kernel
theorem d_Mo_count_83 : decode b_Mo_count 83 = .ok (.goto 4, 3) := by decide +kernel
theorem d_Mo_count_86 : decode b_Mo_count 86 = .ok (.iload_n 3, 1) := by decide +kernel
theorem d_Mo_count_87 : decode b_Mo_count 87 = .ok (.istore_n 3, 1) := by decide +kernel
theorem d_Mo_count_88 : decode b_Mo_count 88 = .ok (.iinc 4 1, 3) := by decide +kernel
theorem d_Mo_count_91 : decode b_Mo_count 91 = .ok (.goto (-41), 3) := by decide +kernel
theorem d_Mo_count_94 : decode b_Mo_count 94 = .ok (.iload_n 2, 1) := by decide +kernel
theorem d_Mo_count_95 : decode b_Mo_count 95 = .ok (.ifCond .ne 11, 3) := by decide +kernel
theorem d_Mo_count_98 : decode b_Mo_count 98 = .ok (.aload_n 0, 1) := by decide +kernel
theorem d_Mo_count_99 : decode b_Mo_count 99 = .ok (.iload_n 1, 1) := by decide +kernel
theorem d_Mo_count_100 : decode b_Mo_count 100 = .ok (.invokevirtual 139, 3) := by decide +kernel
theorem d_Mo_count_103 : decode b_Mo_count 103 = .ok (.goto 17, 3) := by decide +kernel
theorem d_Mo_count_106 : decode b_Mo_count 106 = .ok (.iload_n 2, 1) := by decide +kernel
theorem d_Mo_count_107 : decode b_Mo_count 107 = .ok (.iconst 1, 1) := by decide +kernel
theorem d_Mo_count_108 : decode b_Mo_count 108 = .ok (.if_icmp .ne 7, 3) := by decide +kernel
theorem d_Mo_count_111 : decode b_Mo_count 111 = .ok (.iload_n 3, 1) := by decide +kernel
theorem d_Mo_count_112 : decode b_Mo_count 112 = .ok (.goto 8, 3) := by decide +kernel
theorem d_Mo_count_115 : decode b_Mo_count 115 = .ok (.aload_n 0, 1) := by decide +kernel
theorem d_Mo_count_116 : decode b_Mo_count 116 = .ok (.iload_n 1, 1) := by decide +kernel
theorem d_Mo_count_117 : decode b_Mo_count 117 = .ok (.invokevirtual 375, 3) := by decide +kernel
theorem d_Mo_count_120 : decode b_Mo_count 120 = .ok (.ireturn, 1) := by decide +kernel
abbrev b_Mo_file : ByteArray := prog_14_method_73_code
abbrev y_Mo_file : MethodName := ⟨"RecordLakeModel", "file", "(II)I"⟩
abbrev w_Mo_file : List Cond := Cond.code y_Mo_file b_Mo_file 3 (some .int) :: gW
theorem d_Mo_file_0 : decode b_Mo_file 0 = .ok (.aload_n 0, 1) := by decide +kernel
theorem d_Mo_file_1 : decode b_Mo_file 1 = .ok (.aload_n 0, 1) := by decide +kernel
theorem d_Mo_file_2 : decode b_Mo_file 2 = .ok (.getfield 111, 3) := by decide +kernel
theorem d_Mo_file_5 : decode b_Mo_file 5 = .ok (.ifCond .ne 21, 3) := by decide +kernel
theorem d_Mo_file_8 : decode b_Mo_file 8 = .ok (.iload_n 1, 1) := by decide +kernel
theorem d_Mo_file_9 : decode b_Mo_file 9 = .ok (.iconst 0, 1) := by decide +kernel
theorem d_Mo_file_10 : decode b_Mo_file 10 = .ok (.aload_n 0, 1) := by decide +kernel
theorem d_Mo_file_11 : decode b_Mo_file 11 = .ok (.getfield 78, 3) := by decide +kernel
theorem d_Mo_file_14 : decode b_Mo_file 14 = .ok (.iconst 1, 1) := by decide +kernel
theorem d_Mo_file_15 : decode b_Mo_file 15 = .ok (.isub, 1) := by decide +kernel
theorem d_Mo_file_16 : decode b_Mo_file 16 = .ok (.invokestatic 95, 3) := by decide +kernel
theorem d_Mo_file_19 : decode b_Mo_file 19 = .ok (.ifCond .ne 7, 3) := by decide +kernel
theorem d_Mo_file_22 : decode b_Mo_file 22 = .ok (.iconst 1, 1) := by decide +kernel
theorem d_Mo_file_23 : decode b_Mo_file 23 = .ok (.goto 4, 3) := by decide +kernel
theorem d_Mo_file_26 : decode b_Mo_file 26 = .ok (.iconst 0, 1) := by decide +kernel
theorem d_Mo_file_27 : decode b_Mo_file 27 = .ok (.iload_n 2, 1) := by decide +kernel
theorem d_Mo_file_28 : decode b_Mo_file 28 = .ok (.iconst 0, 1) := by decide +kernel
theorem d_Mo_file_29 : decode b_Mo_file 29 = .ok (.iconst 4, 1) := by decide +kernel
theorem d_Mo_file_30 : decode b_Mo_file 30 = .ok (.invokestatic 95, 3) := by decide +kernel
theorem d_Mo_file_33 : decode b_Mo_file 33 = .ok (.ifCond .ne 7, 3) := by decide +kernel
theorem d_Mo_file_36 : decode b_Mo_file 36 = .ok (.iconst 1, 1) := by decide +kernel
theorem d_Mo_file_37 : decode b_Mo_file 37 = .ok (.goto 4, 3) := by decide +kernel
theorem d_Mo_file_40 : decode b_Mo_file 40 = .ok (.iconst 0, 1) := by decide +kernel
theorem d_Mo_file_41 : decode b_Mo_file 41 = .ok (.invokevirtual 87, 3) := by decide +kernel
theorem d_Mo_file_44 : decode b_Mo_file 44 = .ok (.ifCond .eq 5, 3) := by decide +kernel
theorem d_Mo_file_47 : decode b_Mo_file 47 = .ok (.iconst 0, 1) := by decide +kernel
theorem d_Mo_file_48 : decode b_Mo_file 48 = .ok (.ireturn, 1) := by decide +kernel
theorem d_Mo_file_49 : decode b_Mo_file 49 = .ok (.aload_n 0, 1) := by decide +kernel
theorem d_Mo_file_50 : decode b_Mo_file 50 = .ok (.getfield 111, 3) := by decide +kernel
theorem d_Mo_file_53 : decode b_Mo_file 53 = .ok (.ifCond .eq 6, 3) := by decide +kernel
theorem d_Mo_file_56 : decode b_Mo_file 56 = .ok (.bipush (-33), 2) := by decide +kernel
theorem d_Mo_file_58 : decode b_Mo_file 58 = .ok (.ireturn, 1) := by decide +kernel
theorem d_Mo_file_59 : decode b_Mo_file 59 = .ok (.iload_n 2, 1) := by decide +kernel
theorem d_Mo_file_60 : decode b_Mo_file 60 = .ok (.ifCond .ne 12, 3) := by decide +kernel
theorem d_Mo_file_63 : decode b_Mo_file 63 = .ok (.aload_n 0, 1) := by decide +kernel
theorem d_Mo_file_64 : decode b_Mo_file 64 = .ok (.getfield 39, 3) := by decide +kernel
theorem d_Mo_file_67 : decode b_Mo_file 67 = .ok (.iload_n 1, 1) := by decide +kernel
theorem d_Mo_file_68 : decode b_Mo_file 68 = .ok (.iaload, 1) := by decide +kernel
theorem d_Mo_file_69 : decode b_Mo_file 69 = .ok (.goto 51, 3) := by decide +kernel
theorem d_Mo_file_72 : decode b_Mo_file 72 = .ok (.iload_n 2, 1) := by decide +kernel
theorem d_Mo_file_73 : decode b_Mo_file 73 = .ok (.iconst 1, 1) := by decide +kernel
theorem d_Mo_file_74 : decode b_Mo_file 74 = .ok (.if_icmp .ne 12, 3) := by decide +kernel
theorem d_Mo_file_77 : decode b_Mo_file 77 = .ok (.aload_n 0, 1) := by decide +kernel
theorem d_Mo_file_78 : decode b_Mo_file 78 = .ok (.getfield 43, 3) := by decide +kernel
theorem d_Mo_file_81 : decode b_Mo_file 81 = .ok (.iload_n 1, 1) := by decide +kernel
theorem d_Mo_file_82 : decode b_Mo_file 82 = .ok (.iaload, 1) := by decide +kernel
theorem d_Mo_file_83 : decode b_Mo_file 83 = .ok (.goto 37, 3) := by decide +kernel
theorem d_Mo_file_86 : decode b_Mo_file 86 = .ok (.iload_n 2, 1) := by decide +kernel
theorem d_Mo_file_87 : decode b_Mo_file 87 = .ok (.iconst 2, 1) := by decide +kernel
theorem d_Mo_file_88 : decode b_Mo_file 88 = .ok (.if_icmp .ne 12, 3) := by decide +kernel
theorem d_Mo_file_91 : decode b_Mo_file 91 = .ok (.aload_n 0, 1) := by decide +kernel
theorem d_Mo_file_92 : decode b_Mo_file 92 = .ok (.getfield 46, 3) := by decide +kernel
theorem d_Mo_file_95 : decode b_Mo_file 95 = .ok (.iload_n 1, 1) := by decide +kernel
theorem d_Mo_file_96 : decode b_Mo_file 96 = .ok (.iaload, 1) := by decide +kernel
theorem d_Mo_file_97 : decode b_Mo_file 97 = .ok (.goto 23, 3) := by decide +kernel
theorem d_Mo_file_100 : decode b_Mo_file 100 = .ok (.iload_n 2, 1) := by decide +kernel
theorem d_Mo_file_101 : decode b_Mo_file 101 = .ok (.iconst 3, 1) := by decide +kernel
theorem d_Mo_file_102 : decode b_Mo_file 102 = .ok (.if_icmp .ne 12, 3) := by decide +kernel
theorem d_Mo_file_105 : decode b_Mo_file 105 = .ok (.aload_n 0, 1) := by decide +kernel
theorem d_Mo_file_106 : decode b_Mo_file 106 = .ok (.getfield 49, 3) := by decide +kernel
theorem d_Mo_file_109 : decode b_Mo_file 109 = .ok (.iload_n 1, 1) := by decide +kernel
theorem d_Mo_file_110 : decode b_Mo_file 110 = .ok (.iaload, 1) := by decide +kernel
theorem d_Mo_file_111 : decode b_Mo_file 111 = .ok (.goto 9, 3) := by decide +kernel
theorem d_Mo_file_114 : decode b_Mo_file 114 = .ok (.aload_n 0, 1) := by decide +kernel
theorem d_Mo_file_115 : decode b_Mo_file 115 = .ok (.getfield 52, 3) := by decide +kernel
theorem d_Mo_file_118 : decode b_Mo_file 118 = .ok (.iload_n 1, 1) := by decide +kernel
theorem d_Mo_file_119 : decode b_Mo_file 119 = .ok (.iaload, 1) := by decide +kernel
theorem d_Mo_file_120 : decode b_Mo_file 120 = .ok (.ireturn, 1) := by decide +kernel
