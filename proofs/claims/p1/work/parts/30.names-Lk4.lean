/-! names: methods, their instructions, words -/
theorem mw_1076 : Cond.code ⟨"RecordLake", "register", "(I)I"⟩ prog_1_method_5_code 4 (some .int) ∈ gW := gw_of (List.mem_of_getElem? (i := 1076) (by decide +kernel)) (by decide +kernel)
theorem mw_1077 : Cond.methodLink "RecordLake" 139 ⟨"RecordLake", "needSubject", "(I)V"⟩ ∈ gW := gw_of (List.mem_of_getElem? (i := 1077) (by decide +kernel)) (by decide +kernel)
theorem mw_1078 : Cond.static ⟨"RecordLake", "needSubject", "(I)V"⟩ ∈ gW := gw_of (List.mem_of_getElem? (i := 1078) (by decide +kernel)) (by decide +kernel)
theorem mw_1229 : Cond.code ⟨"RecordLake", "look", "(II)I"⟩ prog_1_method_6_code 3 (some .int) ∈ gW := gw_of (List.mem_of_getElem? (i := 1229) (by decide +kernel)) (by decide +kernel)
theorem mw_1230 : Cond.methodLink "RecordLake" 146 ⟨"RecordLake", "needVersion", "(II)V"⟩ ∈ gW := gw_of (List.mem_of_getElem? (i := 1230) (by decide +kernel)) (by decide +kernel)
theorem mw_1232 : Cond.instanceMethod ⟨"RecordLake", "needVersion", "(II)V"⟩ ∈ gW := gw_of (List.mem_of_getElem? (i := 1232) (by decide +kernel)) (by decide +kernel)
theorem mw_1314 : Cond.code ⟨"RecordLake", "load", "(II)I"⟩ prog_1_method_8_code 5 (some .int) ∈ gW := gw_of (List.mem_of_getElem? (i := 1314) (by decide +kernel)) (by decide +kernel)
theorem mw_1327 : Cond.code ⟨"RecordLake", "read", "(III)I"⟩ prog_1_method_9_code 7 (some .int) ∈ gW := gw_of (List.mem_of_getElem? (i := 1327) (by decide +kernel)) (by decide +kernel)
theorem mw_1414 : Cond.code ⟨"RecordLake", "copy", "(III)I"⟩ prog_1_method_10_code 6 (some .int) ∈ gW := gw_of (List.mem_of_getElem? (i := 1414) (by decide +kernel)) (by decide +kernel)
theorem mw_1430 : Cond.code ⟨"RecordLake", "compact", "(I)I"⟩ prog_1_method_11_code 4 (some .int) ∈ gW := gw_of (List.mem_of_getElem? (i := 1430) (by decide +kernel)) (by decide +kernel)
theorem mw_1474 : Cond.code ⟨"RecordLake", "clear", "(I)I"⟩ prog_1_method_12_code 4 (some .int) ∈ gW := gw_of (List.mem_of_getElem? (i := 1474) (by decide +kernel)) (by decide +kernel)
theorem mw_1475 : Cond.methodLink "RecordLake" 213 ⟨"RecordLake$FileList", "rowsOf", "(I)I"⟩ ∈ gW := gw_of (List.mem_of_getElem? (i := 1475) (by decide +kernel)) (by decide +kernel)
theorem mw_1476 : Cond.instanceMethod ⟨"RecordLake$FileList", "rowsOf", "(I)I"⟩ ∈ gW := gw_of (List.mem_of_getElem? (i := 1476) (by decide +kernel)) (by decide +kernel)
theorem mw_1477 : Cond.selects "RecordLake$FileList" ⟨"RecordLake$FileList", "rowsOf", "(I)I"⟩ ⟨"RecordLake$FileList", "rowsOf", "(I)I"⟩ ∈ gW := gw_of (List.mem_of_getElem? (i := 1477) (by decide +kernel)) (by decide +kernel)
theorem mw_1489 : Cond.code ⟨"RecordLake", "fits", "(IIII)Z"⟩ prog_1_method_13_code 5 (some .boolean) ∈ gW := gw_of (List.mem_of_getElem? (i := 1489) (by decide +kernel)) (by decide +kernel)
theorem mw_1496 : Cond.code ⟨"RecordLake", "count", "(II)I"⟩ prog_1_method_14_code 3 (some .int) ∈ gW := gw_of (List.mem_of_getElem? (i := 1496) (by decide +kernel)) (by decide +kernel)
theorem mw_1501 : Cond.methodLink "RecordLake" 235 ⟨"RecordLake$FileList", "filesOf", "(I)I"⟩ ∈ gW := gw_of (List.mem_of_getElem? (i := 1501) (by decide +kernel)) (by decide +kernel)
theorem mw_1502 : Cond.instanceMethod ⟨"RecordLake$FileList", "filesOf", "(I)I"⟩ ∈ gW := gw_of (List.mem_of_getElem? (i := 1502) (by decide +kernel)) (by decide +kernel)
theorem mw_1503 : Cond.selects "RecordLake$FileList" ⟨"RecordLake$FileList", "filesOf", "(I)I"⟩ ⟨"RecordLake$FileList", "filesOf", "(I)I"⟩ ∈ gW := gw_of (List.mem_of_getElem? (i := 1503) (by decide +kernel)) (by decide +kernel)
theorem mw_1511 : Cond.code ⟨"RecordLake", "print", "(II)J"⟩ prog_1_method_15_code 3 (some .long) ∈ gW := gw_of (List.mem_of_getElem? (i := 1511) (by decide +kernel)) (by decide +kernel)
theorem ms_62 : Cond.selects "RecordLake" ⟨"RecordLake", "needVersion", "(II)V"⟩ ⟨"RecordLake", "needVersion", "(II)V"⟩ ∈ gW := gw_sel (List.mem_of_getElem? (i := 62) (by decide +kernel)) (by decide +kernel)
abbrev b_Lk_count : ByteArray := prog_1_method_14_code
abbrev y_Lk_count : MethodName := ⟨"RecordLake", "count", "(II)I"⟩
abbrev w_Lk_count : List Cond := Cond.code y_Lk_count b_Lk_count 3 (some .int) :: gW
theorem d_Lk_count_0 : decode b_Lk_count 0 = .ok (.iload_n 1, 1) := by decide +kernel
theorem d_Lk_count_1 : decode b_Lk_count 1 = .ok (.invokestatic 139, 3) := by decide +kernel
theorem d_Lk_count_4 : decode b_Lk_count 4 = .ok (.iload_n 2, 1) := by decide +kernel
theorem d_Lk_count_5 : decode b_Lk_count 5 = .ok (.iconst 2, 1) := by decide +kernel
theorem d_Lk_count_6 : decode b_Lk_count 6 = .ok (.invokestatic 229, 3) := by decide +kernel
theorem d_Lk_count_9 : decode b_Lk_count 9 = .ok (.aload_n 0, 1) := by decide +kernel
theorem d_Lk_count_10 : decode b_Lk_count 10 = .ok (.getfield 106, 3) := by decide +kernel
theorem d_Lk_count_13 : decode b_Lk_count 13 = .ok (.ifCond .eq 6, 3) := by decide +kernel
theorem d_Lk_count_16 : decode b_Lk_count 16 = .ok (.bipush (-33), 2) := by decide +kernel
theorem d_Lk_count_18 : decode b_Lk_count 18 = .ok (.ireturn, 1) := by decide +kernel
theorem d_Lk_count_19 : decode b_Lk_count 19 = .ok (.iload_n 2, 1) := by decide +kernel
theorem d_Lk_count_20 : decode b_Lk_count 20 = .ok (.lookupswitch 47 #[(0, 28), (1, 38)], 28) := by decide +kernel
theorem d_Lk_count_48 : decode b_Lk_count 48 = .ok (.aload_n 0, 1) := by decide +kernel
theorem d_Lk_count_49 : decode b_Lk_count 49 = .ok (.getfield 43, 3) := by decide +kernel
theorem d_Lk_count_52 : decode b_Lk_count 52 = .ok (.getfield 232, 3) := by decide +kernel
theorem d_Lk_count_55 : decode b_Lk_count 55 = .ok (.iload_n 1, 1) := by decide +kernel
theorem d_Lk_count_56 : decode b_Lk_count 56 = .ok (.iaload, 1) := by decide +kernel
theorem d_Lk_count_57 : decode b_Lk_count 57 = .ok (.ireturn, 1) := by decide +kernel
theorem d_Lk_count_58 : decode b_Lk_count 58 = .ok (.aload_n 0, 1) := by decide +kernel
theorem d_Lk_count_59 : decode b_Lk_count 59 = .ok (.getfield 98, 3) := by decide +kernel
theorem d_Lk_count_62 : decode b_Lk_count 62 = .ok (.iload_n 1, 1) := by decide +kernel
theorem d_Lk_count_63 : decode b_Lk_count 63 = .ok (.invokevirtual 235, 3) := by decide +kernel
theorem d_Lk_count_66 : decode b_Lk_count 66 = .ok (.ireturn, 1) := by decide +kernel
theorem d_Lk_count_67 : decode b_Lk_count 67 = .ok (.aload_n 0, 1) := by decide +kernel
theorem d_Lk_count_68 : decode b_Lk_count 68 = .ok (.getfield 98, 3) := by decide +kernel
theorem d_Lk_count_71 : decode b_Lk_count 71 = .ok (.iload_n 1, 1) := by decide +kernel
theorem d_Lk_count_72 : decode b_Lk_count 72 = .ok (.invokevirtual 213, 3) := by decide +kernel
theorem d_Lk_count_75 : decode b_Lk_count 75 = .ok (.ireturn, 1) := by decide +kernel
abbrev b_Lk_clear : ByteArray := prog_1_method_12_code
abbrev y_Lk_clear : MethodName := ⟨"RecordLake", "clear", "(I)I"⟩
abbrev w_Lk_clear : List Cond := Cond.code y_Lk_clear b_Lk_clear 4 (some .int) :: gW
theorem d_Lk_clear_0 : decode b_Lk_clear 0 = .ok (.iload_n 1, 1) := by decide +kernel
theorem d_Lk_clear_1 : decode b_Lk_clear 1 = .ok (.invokestatic 139, 3) := by decide +kernel
theorem d_Lk_clear_4 : decode b_Lk_clear 4 = .ok (.aload_n 0, 1) := by decide +kernel
theorem d_Lk_clear_5 : decode b_Lk_clear 5 = .ok (.getfield 106, 3) := by decide +kernel
theorem d_Lk_clear_8 : decode b_Lk_clear 8 = .ok (.ifCond .eq 6, 3) := by decide +kernel
theorem d_Lk_clear_11 : decode b_Lk_clear 11 = .ok (.bipush (-33), 2) := by decide +kernel
theorem d_Lk_clear_13 : decode b_Lk_clear 13 = .ok (.ireturn, 1) := by decide +kernel
theorem d_Lk_clear_14 : decode b_Lk_clear 14 = .ok (.aload_n 0, 1) := by decide +kernel
theorem d_Lk_clear_15 : decode b_Lk_clear 15 = .ok (.getfield 98, 3) := by decide +kernel
theorem d_Lk_clear_18 : decode b_Lk_clear 18 = .ok (.iload_n 1, 1) := by decide +kernel
theorem d_Lk_clear_19 : decode b_Lk_clear 19 = .ok (.invokevirtual 213, 3) := by decide +kernel
theorem d_Lk_clear_22 : decode b_Lk_clear 22 = .ok (.istore_n 2, 1) := by decide +kernel
theorem d_Lk_clear_23 : decode b_Lk_clear 23 = .ok (.iload_n 2, 1) := by decide +kernel
theorem d_Lk_clear_24 : decode b_Lk_clear 24 = .ok (.ifCond .ne 5, 3) := by decide +kernel
theorem d_Lk_clear_27 : decode b_Lk_clear 27 = .ok (.iconst 0, 1) := by decide +kernel
theorem d_Lk_clear_28 : decode b_Lk_clear 28 = .ok (.ireturn, 1) := by decide +kernel
theorem d_Lk_clear_29 : decode b_Lk_clear 29 = .ok (.aload_n 0, 1) := by decide +kernel
theorem d_Lk_clear_30 : decode b_Lk_clear 30 = .ok (.getfield 98, 3) := by decide +kernel
theorem d_Lk_clear_33 : decode b_Lk_clear 33 = .ok (.iload_n 1, 1) := by decide +kernel
theorem d_Lk_clear_34 : decode b_Lk_clear 34 = .ok (.invokevirtual 216, 3) := by decide +kernel
theorem d_Lk_clear_37 : decode b_Lk_clear 37 = .ok (.aload_n 0, 1) := by decide +kernel
theorem d_Lk_clear_38 : decode b_Lk_clear 38 = .ok (.invokevirtual 219, 3) := by decide +kernel
theorem d_Lk_clear_41 : decode b_Lk_clear 41 = .ok (.istore_n 3, 1) := by decide +kernel
theorem d_Lk_clear_42 : decode b_Lk_clear 42 = .ok (.iload_n 3, 1) := by decide +kernel
theorem d_Lk_clear_43 : decode b_Lk_clear 43 = .ok (.ifCond .ne 7, 3) := by decide +kernel
theorem d_Lk_clear_46 : decode b_Lk_clear 46 = .ok (.iload_n 2, 1) := by decide +kernel
theorem d_Lk_clear_47 : decode b_Lk_clear 47 = .ok (.goto 4, 3) := by decide +kernel
theorem d_Lk_clear_50 : decode b_Lk_clear 50 = .ok (.iload_n 3, 1) := by decide +kernel
theorem d_Lk_clear_51 : decode b_Lk_clear 51 = .ok (.ireturn, 1) := by decide +kernel
abbrev b_Lk_compact : ByteArray := prog_1_method_11_code
abbrev y_Lk_compact : MethodName := ⟨"RecordLake", "compact", "(I)I"⟩
abbrev w_Lk_compact : List Cond := Cond.code y_Lk_compact b_Lk_compact 4 (some .int) :: gW
theorem d_Lk_compact_0 : decode b_Lk_compact 0 = .ok (.iload_n 1, 1) := by decide +kernel
theorem d_Lk_compact_1 : decode b_Lk_compact 1 = .ok (.invokestatic 139, 3) := by decide +kernel
theorem d_Lk_compact_4 : decode b_Lk_compact 4 = .ok (.aload_n 0, 1) := by decide +kernel
theorem d_Lk_compact_5 : decode b_Lk_compact 5 = .ok (.getfield 106, 3) := by decide +kernel
theorem d_Lk_compact_8 : decode b_Lk_compact 8 = .ok (.ifCond .eq 6, 3) := by decide +kernel
theorem d_Lk_compact_11 : decode b_Lk_compact 11 = .ok (.bipush (-33), 2) := by decide +kernel
theorem d_Lk_compact_13 : decode b_Lk_compact 13 = .ok (.ireturn, 1) := by decide +kernel
theorem d_Lk_compact_14 : decode b_Lk_compact 14 = .ok (.iconst 0, 1) := by decide +kernel
theorem d_Lk_compact_15 : decode b_Lk_compact 15 = .ok (.istore_n 2, 1) := by decide +kernel
theorem d_Lk_compact_16 : decode b_Lk_compact 16 = .ok (.iload_n 2, 1) := by decide +kernel
theorem d_Lk_compact_17 : decode b_Lk_compact 17 = .ok (.aload_n 0, 1) := by decide +kernel
theorem d_Lk_compact_18 : decode b_Lk_compact 18 = .ok (.getfield 98, 3) := by decide +kernel
theorem d_Lk_compact_21 : decode b_Lk_compact 21 = .ok (.getfield 196, 3) := by decide +kernel
theorem d_Lk_compact_24 : decode b_Lk_compact 24 = .ok (.if_icmp .ge 67, 3) := by decide +kernel
theorem d_Lk_compact_27 : decode b_Lk_compact 27 = .ok (.aload_n 0, 1) := by decide +kernel
theorem d_Lk_compact_28 : decode b_Lk_compact 28 = .ok (.getfield 98, 3) := by decide +kernel
theorem d_Lk_compact_31 : decode b_Lk_compact 31 = .ok (.iload_n 2, 1) := by decide +kernel
theorem d_Lk_compact_32 : decode b_Lk_compact 32 = .ok (.iload_n 1, 1) := by decide +kernel
theorem d_Lk_compact_33 : decode b_Lk_compact 33 = .ok (.invokevirtual 197, 3) := by decide +kernel
theorem d_Lk_compact_36 : decode b_Lk_compact 36 = .ok (.ifCond .eq 17, 3) := by decide +kernel
theorem d_Lk_compact_39 : decode b_Lk_compact 39 = .ok (.aload_n 0, 1) := by decide +kernel
theorem d_Lk_compact_40 : decode b_Lk_compact 40 = .ok (.getfield 98, 3) := by decide +kernel
theorem d_Lk_compact_43 : decode b_Lk_compact 43 = .ok (.iload_n 1, 1) := by decide +kernel
theorem d_Lk_compact_44 : decode b_Lk_compact 44 = .ok (.iload_n 2, 1) := by decide +kernel
theorem d_Lk_compact_45 : decode b_Lk_compact 45 = .ok (.iconst 1, 1) := by decide +kernel
theorem d_Lk_compact_46 : decode b_Lk_compact 46 = .ok (.iadd, 1) := by decide +kernel
theorem d_Lk_compact_47 : decode b_Lk_compact 47 = .ok (.invokevirtual 201, 3) := by decide +kernel
theorem d_Lk_compact_50 : decode b_Lk_compact 50 = .ok (.goto 4, 3) := by decide +kernel
theorem d_Lk_compact_53 : decode b_Lk_compact 53 = .ok (.iconst (-1), 1) := by decide +kernel
theorem d_Lk_compact_54 : decode b_Lk_compact 54 = .ok (.istore_n 3, 1) := by decide +kernel
theorem d_Lk_compact_55 : decode b_Lk_compact 55 = .ok (.iload_n 3, 1) := by decide +kernel
theorem d_Lk_compact_56 : decode b_Lk_compact 56 = .ok (.iconst (-1), 1) := by decide +kernel
theorem d_Lk_compact_57 : decode b_Lk_compact 57 = .ok (.if_icmp .eq 28, 3) := by decide +kernel
theorem d_Lk_compact_60 : decode b_Lk_compact 60 = .ok (.aload_n 0, 1) := by decide +kernel
theorem d_Lk_compact_61 : decode b_Lk_compact 61 = .ok (.iload_n 2, 1) := by decide +kernel
theorem d_Lk_compact_62 : decode b_Lk_compact 62 = .ok (.iload_n 3, 1) := by decide +kernel
theorem d_Lk_compact_63 : decode b_Lk_compact 63 = .ok (.invokevirtual 204, 3) := by decide +kernel
theorem d_Lk_compact_66 : decode b_Lk_compact 66 = .ok (.ifCond .eq 19, 3) := by decide +kernel
theorem d_Lk_compact_69 : decode b_Lk_compact 69 = .ok (.aload_n 0, 1) := by decide +kernel
theorem d_Lk_compact_70 : decode b_Lk_compact 70 = .ok (.iload_n 2, 1) := by decide +kernel
theorem d_Lk_compact_71 : decode b_Lk_compact 71 = .ok (.iload_n 3, 1) := by decide +kernel
theorem d_Lk_compact_72 : decode b_Lk_compact 72 = .ok (.invokevirtual 207, 3) := by decide +kernel
theorem d_Lk_compact_75 : decode b_Lk_compact 75 = .ok (.ifCond .eq 10, 3) := by decide +kernel
theorem d_Lk_compact_78 : decode b_Lk_compact 78 = .ok (.aload_n 0, 1) := by decide +kernel
theorem d_Lk_compact_79 : decode b_Lk_compact 79 = .ok (.iload_n 2, 1) := by decide +kernel
theorem d_Lk_compact_80 : decode b_Lk_compact 80 = .ok (.iload_n 3, 1) := by decide +kernel
theorem d_Lk_compact_81 : decode b_Lk_compact 81 = .ok (.invokevirtual 210, 3) := by decide +kernel
theorem d_Lk_compact_84 : decode b_Lk_compact 84 = .ok (.ireturn, 1) := by decide +kernel
theorem d_Lk_compact_85 : decode b_Lk_compact 85 = .ok (.iinc 2 1, 3) := by decide +kernel
theorem d_Lk_compact_88 : decode b_Lk_compact 88 = .ok (.goto (-72), 3) := by decide +kernel
theorem d_Lk_compact_91 : decode b_Lk_compact 91 = .ok (.iconst 0, 1) := by decide +kernel
theorem d_Lk_compact_92 : decode b_Lk_compact 92 = .ok (.ireturn, 1) := by decide +kernel
abbrev b_Lk_look : ByteArray := prog_1_method_6_code
abbrev y_Lk_look : MethodName := ⟨"RecordLake", "look", "(II)I"⟩
abbrev w_Lk_look : List Cond := Cond.code y_Lk_look b_Lk_look 3 (some .int) :: gW
theorem d_Lk_look_0 : decode b_Lk_look 0 = .ok (.iload_n 1, 1) := by decide +kernel
theorem d_Lk_look_1 : decode b_Lk_look 1 = .ok (.invokestatic 139, 3) := by decide +kernel
theorem d_Lk_look_4 : decode b_Lk_look 4 = .ok (.aload_n 0, 1) := by decide +kernel
theorem d_Lk_look_5 : decode b_Lk_look 5 = .ok (.getfield 106, 3) := by decide +kernel
theorem d_Lk_look_8 : decode b_Lk_look 8 = .ok (.ifCond .eq 6, 3) := by decide +kernel
theorem d_Lk_look_11 : decode b_Lk_look 11 = .ok (.bipush (-33), 2) := by decide +kernel
theorem d_Lk_look_13 : decode b_Lk_look 13 = .ok (.ireturn, 1) := by decide +kernel
theorem d_Lk_look_14 : decode b_Lk_look 14 = .ok (.aload_n 0, 1) := by decide +kernel
theorem d_Lk_look_15 : decode b_Lk_look 15 = .ok (.iload_n 1, 1) := by decide +kernel
theorem d_Lk_look_16 : decode b_Lk_look 16 = .ok (.iload_n 2, 1) := by decide +kernel
theorem d_Lk_look_17 : decode b_Lk_look 17 = .ok (.invokevirtual 146, 3) := by decide +kernel
theorem d_Lk_look_20 : decode b_Lk_look 20 = .ok (.aload_n 0, 1) := by decide +kernel
theorem d_Lk_look_21 : decode b_Lk_look 21 = .ok (.aload_n 0, 1) := by decide +kernel
theorem d_Lk_look_22 : decode b_Lk_look 22 = .ok (.getfield 43, 3) := by decide +kernel
theorem d_Lk_look_25 : decode b_Lk_look 25 = .ok (.iload_n 1, 1) := by decide +kernel
theorem d_Lk_look_26 : decode b_Lk_look 26 = .ok (.iload_n 2, 1) := by decide +kernel
theorem d_Lk_look_27 : decode b_Lk_look 27 = .ok (.invokevirtual 150, 3) := by decide +kernel
theorem d_Lk_look_30 : decode b_Lk_look 30 = .ok (.invokevirtual 153, 3) := by decide +kernel
theorem d_Lk_look_33 : decode b_Lk_look 33 = .ok (.ireturn, 1) := by decide +kernel
abbrev b_Lk_load : ByteArray := prog_1_method_8_code
abbrev y_Lk_load : MethodName := ⟨"RecordLake", "load", "(II)I"⟩
abbrev w_Lk_load : List Cond := Cond.code y_Lk_load b_Lk_load 5 (some .int) :: gW
theorem d_Lk_load_0 : decode b_Lk_load 0 = .ok (.iload_n 1, 1) := by decide +kernel
theorem d_Lk_load_1 : decode b_Lk_load 1 = .ok (.invokestatic 139, 3) := by decide +kernel
theorem d_Lk_load_4 : decode b_Lk_load 4 = .ok (.aload_n 0, 1) := by decide +kernel
theorem d_Lk_load_5 : decode b_Lk_load 5 = .ok (.getfield 106, 3) := by decide +kernel
theorem d_Lk_load_8 : decode b_Lk_load 8 = .ok (.ifCond .eq 6, 3) := by decide +kernel
theorem d_Lk_load_11 : decode b_Lk_load 11 = .ok (.bipush (-33), 2) := by decide +kernel
theorem d_Lk_load_13 : decode b_Lk_load 13 = .ok (.ireturn, 1) := by decide +kernel
theorem d_Lk_load_14 : decode b_Lk_load 14 = .ok (.aload_n 0, 1) := by decide +kernel
theorem d_Lk_load_15 : decode b_Lk_load 15 = .ok (.iload_n 1, 1) := by decide +kernel
theorem d_Lk_load_16 : decode b_Lk_load 16 = .ok (.iload_n 2, 1) := by decide +kernel
theorem d_Lk_load_17 : decode b_Lk_load 17 = .ok (.invokevirtual 146, 3) := by decide +kernel
theorem d_Lk_load_20 : decode b_Lk_load 20 = .ok (.aload_n 0, 1) := by decide +kernel
theorem d_Lk_load_21 : decode b_Lk_load 21 = .ok (.aload_n 0, 1) := by decide +kernel
theorem d_Lk_load_22 : decode b_Lk_load 22 = .ok (.getfield 43, 3) := by decide +kernel
theorem d_Lk_load_25 : decode b_Lk_load 25 = .ok (.iload_n 1, 1) := by decide +kernel
theorem d_Lk_load_26 : decode b_Lk_load 26 = .ok (.iload_n 2, 1) := by decide +kernel
theorem d_Lk_load_27 : decode b_Lk_load 27 = .ok (.invokevirtual 150, 3) := by decide +kernel
theorem d_Lk_load_30 : decode b_Lk_load 30 = .ok (.invokevirtual 153, 3) := by decide +kernel
theorem d_Lk_load_33 : decode b_Lk_load 33 = .ok (.istore_n 3, 1) := by decide +kernel
theorem d_Lk_load_34 : decode b_Lk_load 34 = .ok (.iload_n 3, 1) := by decide +kernel
theorem d_Lk_load_35 : decode b_Lk_load 35 = .ok (.ifCond .ge 5, 3) := by decide +kernel
theorem d_Lk_load_38 : decode b_Lk_load 38 = .ok (.iload_n 3, 1) := by decide +kernel
theorem d_Lk_load_39 : decode b_Lk_load 39 = .ok (.ireturn, 1) := by decide +kernel
theorem d_Lk_load_40 : decode b_Lk_load 40 = .ok (.aload_n 0, 1) := by decide +kernel
theorem d_Lk_load_41 : decode b_Lk_load 41 = .ok (.iload_n 3, 1) := by decide +kernel
theorem d_Lk_load_42 : decode b_Lk_load 42 = .ok (.aload_n 0, 1) := by decide +kernel
theorem d_Lk_load_43 : decode b_Lk_load 43 = .ok (.getfield 68, 3) := by decide +kernel
theorem d_Lk_load_46 : decode b_Lk_load 46 = .ok (.getfield 157, 3) := by decide +kernel
theorem d_Lk_load_49 : decode b_Lk_load 49 = .ok (.invokevirtual 160, 3) := by decide +kernel
theorem d_Lk_load_52 : decode b_Lk_load 52 = .ok (.ifCond .eq 13, 3) := by decide +kernel
theorem d_Lk_load_55 : decode b_Lk_load 55 = .ok (.aload_n 0, 1) := by decide +kernel
theorem d_Lk_load_56 : decode b_Lk_load 56 = .ok (.iload_n 1, 1) := by decide +kernel
theorem d_Lk_load_57 : decode b_Lk_load 57 = .ok (.iload_n 2, 1) := by decide +kernel
theorem d_Lk_load_58 : decode b_Lk_load 58 = .ok (.iload_n 3, 1) := by decide +kernel
theorem d_Lk_load_59 : decode b_Lk_load 59 = .ok (.invokevirtual 164, 3) := by decide +kernel
theorem d_Lk_load_62 : decode b_Lk_load 62 = .ok (.goto 5, 3) := by decide +kernel
theorem d_Lk_load_65 : decode b_Lk_load 65 = .ok (.bipush (-31), 2) := by decide +kernel
theorem d_Lk_load_67 : decode b_Lk_load 67 = .ok (.istore 4, 2) := by decide +kernel
theorem d_Lk_load_69 : decode b_Lk_load 69 = .ok (.iload 4, 2) := by decide +kernel
theorem d_Lk_load_71 : decode b_Lk_load 71 = .ok (.bipush (-31), 2) := by decide +kernel
theorem d_Lk_load_73 : decode b_Lk_load 73 = .ok (.if_icmp .ne 6, 3) := by decide +kernel
theorem d_Lk_load_76 : decode b_Lk_load 76 = .ok (.bipush (-31), 2) := by decide +kernel
theorem d_Lk_load_78 : decode b_Lk_load 78 = .ok (.ireturn, 1) := by decide +kernel
theorem d_Lk_load_79 : decode b_Lk_load 79 = .ok (.aload_n 0, 1) := by decide +kernel
theorem d_Lk_load_80 : decode b_Lk_load 80 = .ok (.getfield 14, 3) := by decide +kernel
theorem d_Lk_load_83 : decode b_Lk_load 83 = .ok (.iconst 0, 1) := by decide +kernel
theorem d_Lk_load_84 : decode b_Lk_load 84 = .ok (.putfield 110, 3) := by decide +kernel
theorem d_Lk_load_87 : decode b_Lk_load 87 = .ok (.iload 4, 2) := by decide +kernel
theorem d_Lk_load_89 : decode b_Lk_load 89 = .ok (.ifCond .ne 7, 3) := by decide +kernel
theorem d_Lk_load_92 : decode b_Lk_load 92 = .ok (.iload_n 3, 1) := by decide +kernel
theorem d_Lk_load_93 : decode b_Lk_load 93 = .ok (.goto 5, 3) := by decide +kernel
theorem d_Lk_load_96 : decode b_Lk_load 96 = .ok (.iload 4, 2) := by decide +kernel
theorem d_Lk_load_98 : decode b_Lk_load 98 = .ok (.ireturn, 1) := by decide +kernel
abbrev b_Lk_print : ByteArray := prog_1_method_15_code
abbrev y_Lk_print : MethodName := ⟨"RecordLake", "print", "(II)J"⟩
abbrev w_Lk_print : List Cond := Cond.code y_Lk_print b_Lk_print 3 (some .long) :: gW
theorem d_Lk_print_0 : decode b_Lk_print 0 = .ok (.iload_n 1, 1) := by decide +kernel
theorem d_Lk_print_1 : decode b_Lk_print 1 = .ok (.invokestatic 139, 3) := by decide +kernel
theorem d_Lk_print_4 : decode b_Lk_print 4 = .ok (.aload_n 0, 1) := by decide +kernel
theorem d_Lk_print_5 : decode b_Lk_print 5 = .ok (.getfield 106, 3) := by decide +kernel
theorem d_Lk_print_8 : decode b_Lk_print 8 = .ok (.ifCond .eq 5, 3) := by decide +kernel
theorem d_Lk_print_11 : decode b_Lk_print 11 = .ok (.lconst 0, 1) := by decide +kernel
theorem d_Lk_print_12 : decode b_Lk_print 12 = .ok (.lreturn, 1) := by decide +kernel
theorem d_Lk_print_13 : decode b_Lk_print 13 = .ok (.aload_n 0, 1) := by decide +kernel
theorem d_Lk_print_14 : decode b_Lk_print 14 = .ok (.iload_n 1, 1) := by decide +kernel
theorem d_Lk_print_15 : decode b_Lk_print 15 = .ok (.iload_n 2, 1) := by decide +kernel
theorem d_Lk_print_16 : decode b_Lk_print 16 = .ok (.invokevirtual 146, 3) := by decide +kernel
theorem d_Lk_print_19 : decode b_Lk_print 19 = .ok (.aload_n 0, 1) := by decide +kernel
theorem d_Lk_print_20 : decode b_Lk_print 20 = .ok (.getfield 61, 3) := by decide +kernel
theorem d_Lk_print_23 : decode b_Lk_print 23 = .ok (.aload_n 0, 1) := by decide +kernel
theorem d_Lk_print_24 : decode b_Lk_print 24 = .ok (.getfield 43, 3) := by decide +kernel
theorem d_Lk_print_27 : decode b_Lk_print 27 = .ok (.iload_n 1, 1) := by decide +kernel
theorem d_Lk_print_28 : decode b_Lk_print 28 = .ok (.iload_n 2, 1) := by decide +kernel
theorem d_Lk_print_29 : decode b_Lk_print 29 = .ok (.invokevirtual 150, 3) := by decide +kernel
theorem d_Lk_print_32 : decode b_Lk_print 32 = .ok (.invokevirtual 238, 3) := by decide +kernel
theorem d_Lk_print_35 : decode b_Lk_print 35 = .ok (.lreturn, 1) := by decide +kernel
abbrev b_Lk_read : ByteArray := prog_1_method_9_code
abbrev y_Lk_read : MethodName := ⟨"RecordLake", "read", "(III)I"⟩
abbrev w_Lk_read : List Cond := Cond.code y_Lk_read b_Lk_read 7 (some .int) :: gW
theorem d_Lk_read_0 : decode b_Lk_read 0 = .ok (.iload_n 1, 1) := by decide +kernel
theorem d_Lk_read_1 : decode b_Lk_read 1 = .ok (.invokestatic 139, 3) := by decide +kernel
theorem d_Lk_read_4 : decode b_Lk_read 4 = .ok (.aload_n 0, 1) := by decide +kernel
theorem d_Lk_read_5 : decode b_Lk_read 5 = .ok (.getfield 106, 3) := by decide +kernel
theorem d_Lk_read_8 : decode b_Lk_read 8 = .ok (.ifCond .eq 6, 3) := by decide +kernel
theorem d_Lk_read_11 : decode b_Lk_read 11 = .ok (.bipush (-33), 2) := by decide +kernel
theorem d_Lk_read_13 : decode b_Lk_read 13 = .ok (.ireturn, 1) := by decide +kernel
theorem d_Lk_read_14 : decode b_Lk_read 14 = .ok (.aload_n 0, 1) := by decide +kernel
theorem d_Lk_read_15 : decode b_Lk_read 15 = .ok (.iload_n 1, 1) := by decide +kernel
theorem d_Lk_read_16 : decode b_Lk_read 16 = .ok (.iload_n 2, 1) := by decide +kernel
theorem d_Lk_read_17 : decode b_Lk_read 17 = .ok (.invokevirtual 146, 3) := by decide +kernel
theorem d_Lk_read_20 : decode b_Lk_read 20 = .ok (.aload_n 0, 1) := by decide +kernel
theorem d_Lk_read_21 : decode b_Lk_read 21 = .ok (.getfield 98, 3) := by decide +kernel
theorem d_Lk_read_24 : decode b_Lk_read 24 = .ok (.iload_n 1, 1) := by decide +kernel
theorem d_Lk_read_25 : decode b_Lk_read 25 = .ok (.iload_n 3, 1) := by decide +kernel
theorem d_Lk_read_26 : decode b_Lk_read 26 = .ok (.invokevirtual 168, 3) := by decide +kernel
theorem d_Lk_read_29 : decode b_Lk_read 29 = .ok (.istore 4, 2) := by decide +kernel
theorem d_Lk_read_31 : decode b_Lk_read 31 = .ok (.iload 4, 2) := by decide +kernel
theorem d_Lk_read_33 : decode b_Lk_read 33 = .ok (.iconst (-1), 1) := by decide +kernel
theorem d_Lk_read_34 : decode b_Lk_read 34 = .ok (.if_icmp .ne 13, 3) := by decide +kernel
theorem d_Lk_read_37 : decode b_Lk_read 37 = .ok (.new 171, 3) := by decide +kernel
theorem d_Lk_read_40 : decode b_Lk_read 40 = .ok (.dup, 1) := by decide +kernel
theorem d_Lk_read_41 : decode b_Lk_read 41 = .ok (.ldc 173, 2) := by decide +kernel
theorem d_Lk_read_43 : decode b_Lk_read 43 = .ok (.invokespecial 175, 3) := by decide +kernel
theorem d_Lk_read_46 : decode b_Lk_read 46 = .ok (.athrow, 1) := by decide +kernel
theorem d_Lk_read_47 : decode b_Lk_read 47 = .ok (.aload_n 0, 1) := by decide +kernel
theorem d_Lk_read_48 : decode b_Lk_read 48 = .ok (.getfield 43, 3) := by decide +kernel
theorem d_Lk_read_51 : decode b_Lk_read 51 = .ok (.iload_n 1, 1) := by decide +kernel
theorem d_Lk_read_52 : decode b_Lk_read 52 = .ok (.aload_n 0, 1) := by decide +kernel
theorem d_Lk_read_53 : decode b_Lk_read 53 = .ok (.getfield 98, 3) := by decide +kernel
theorem d_Lk_read_56 : decode b_Lk_read 56 = .ok (.getfield 176, 3) := by decide +kernel
theorem d_Lk_read_59 : decode b_Lk_read 59 = .ok (.iload 4, 2) := by decide +kernel
theorem d_Lk_read_61 : decode b_Lk_read 61 = .ok (.iaload, 1) := by decide +kernel
theorem d_Lk_read_62 : decode b_Lk_read 62 = .ok (.invokevirtual 150, 3) := by decide +kernel
theorem d_Lk_read_65 : decode b_Lk_read 65 = .ok (.istore 5, 2) := by decide +kernel
theorem d_Lk_read_67 : decode b_Lk_read 67 = .ok (.aload_n 0, 1) := by decide +kernel
theorem d_Lk_read_68 : decode b_Lk_read 68 = .ok (.iload 4, 2) := by decide +kernel
theorem d_Lk_read_70 : decode b_Lk_read 70 = .ok (.invokevirtual 180, 3) := by decide +kernel
theorem d_Lk_read_73 : decode b_Lk_read 73 = .ok (.aload_n 0, 1) := by decide +kernel
theorem d_Lk_read_74 : decode b_Lk_read 74 = .ok (.getfield 98, 3) := by decide +kernel
theorem d_Lk_read_77 : decode b_Lk_read 77 = .ok (.iload 4, 2) := by decide +kernel
theorem d_Lk_read_79 : decode b_Lk_read 79 = .ok (.invokevirtual 183, 3) := by decide +kernel
theorem d_Lk_read_82 : decode b_Lk_read 82 = .ok (.istore 6, 2) := by decide +kernel
theorem d_Lk_read_84 : decode b_Lk_read 84 = .ok (.iload 6, 2) := by decide +kernel
theorem d_Lk_read_86 : decode b_Lk_read 86 = .ok (.iload_n 3, 1) := by decide +kernel
theorem d_Lk_read_87 : decode b_Lk_read 87 = .ok (.if_icmp .ge 18, 3) := by decide +kernel
theorem d_Lk_read_90 : decode b_Lk_read 90 = .ok (.aload_n 0, 1) := by decide +kernel
theorem d_Lk_read_91 : decode b_Lk_read 91 = .ok (.getfield 84, 3) := by decide +kernel
theorem d_Lk_read_94 : decode b_Lk_read 94 = .ok (.iload 5, 2) := by decide +kernel
theorem d_Lk_read_96 : decode b_Lk_read 96 = .ok (.invokevirtual 186, 3) := by decide +kernel
theorem d_Lk_read_99 : decode b_Lk_read 99 = .ok (.iinc 6 1, 3) := by decide +kernel
theorem d_Lk_read_102 : decode b_Lk_read 102 = .ok (.goto (-18), 3) := by decide +kernel
theorem d_Lk_read_105 : decode b_Lk_read 105 = .ok (.aload_n 0, 1) := by decide +kernel
theorem d_Lk_read_106 : decode b_Lk_read 106 = .ok (.getfield 21, 3) := by decide +kernel
theorem d_Lk_read_109 : decode b_Lk_read 109 = .ok (.iconst 0, 1) := by decide +kernel
theorem d_Lk_read_110 : decode b_Lk_read 110 = .ok (.putfield 110, 3) := by decide +kernel
theorem d_Lk_read_113 : decode b_Lk_read 113 = .ok (.aload_n 0, 1) := by decide +kernel
theorem d_Lk_read_114 : decode b_Lk_read 114 = .ok (.getfield 84, 3) := by decide +kernel
theorem d_Lk_read_117 : decode b_Lk_read 117 = .ok (.iload 5, 2) := by decide +kernel
theorem d_Lk_read_119 : decode b_Lk_read 119 = .ok (.aload_n 0, 1) := by decide +kernel
theorem d_Lk_read_120 : decode b_Lk_read 120 = .ok (.getfield 43, 3) := by decide +kernel
theorem d_Lk_read_123 : decode b_Lk_read 123 = .ok (.iload_n 1, 1) := by decide +kernel
theorem d_Lk_read_124 : decode b_Lk_read 124 = .ok (.iload_n 2, 1) := by decide +kernel
theorem d_Lk_read_125 : decode b_Lk_read 125 = .ok (.invokevirtual 150, 3) := by decide +kernel
theorem d_Lk_read_128 : decode b_Lk_read 128 = .ok (.aload_n 0, 1) := by decide +kernel
theorem d_Lk_read_129 : decode b_Lk_read 129 = .ok (.getfield 21, 3) := by decide +kernel
theorem d_Lk_read_132 : decode b_Lk_read 132 = .ok (.invokevirtual 189, 3) := by decide +kernel
theorem d_Lk_read_135 : decode b_Lk_read 135 = .ok (.istore 6, 2) := by decide +kernel
theorem d_Lk_read_137 : decode b_Lk_read 137 = .ok (.iload 6, 2) := by decide +kernel
theorem d_Lk_read_139 : decode b_Lk_read 139 = .ok (.ifCond .eq 14, 3) := by decide +kernel
theorem d_Lk_read_142 : decode b_Lk_read 142 = .ok (.aload_n 0, 1) := by decide +kernel
theorem d_Lk_read_143 : decode b_Lk_read 143 = .ok (.getfield 21, 3) := by decide +kernel
theorem d_Lk_read_146 : decode b_Lk_read 146 = .ok (.iconst 0, 1) := by decide +kernel
theorem d_Lk_read_147 : decode b_Lk_read 147 = .ok (.putfield 110, 3) := by decide +kernel
theorem d_Lk_read_150 : decode b_Lk_read 150 = .ok (.iload 6, 2) := by decide +kernel
theorem d_Lk_read_152 : decode b_Lk_read 152 = .ok (.ireturn, 1) := by decide +kernel
theorem d_Lk_read_153 : decode b_Lk_read 153 = .ok (.aload_n 0, 1) := by decide +kernel
theorem d_Lk_read_154 : decode b_Lk_read 154 = .ok (.getfield 21, 3) := by decide +kernel
theorem d_Lk_read_157 : decode b_Lk_read 157 = .ok (.getfield 110, 3) := by decide +kernel
theorem d_Lk_read_160 : decode b_Lk_read 160 = .ok (.ireturn, 1) := by decide +kernel
abbrev b_Lk_register : ByteArray := prog_1_method_5_code
abbrev y_Lk_register : MethodName := ⟨"RecordLake", "register", "(I)I"⟩
abbrev w_Lk_register : List Cond := Cond.code y_Lk_register b_Lk_register 4 (some .int) :: gW
theorem d_Lk_register_0 : decode b_Lk_register 0 = .ok (.iload_n 1, 1) := by decide +kernel
theorem d_Lk_register_1 : decode b_Lk_register 1 = .ok (.invokestatic 139, 3) := by decide +kernel
theorem d_Lk_register_4 : decode b_Lk_register 4 = .ok (.aload_n 0, 1) := by decide +kernel
theorem d_Lk_register_5 : decode b_Lk_register 5 = .ok (.getfield 106, 3) := by decide +kernel
theorem d_Lk_register_8 : decode b_Lk_register 8 = .ok (.ifCond .eq 6, 3) := by decide +kernel
theorem d_Lk_register_11 : decode b_Lk_register 11 = .ok (.bipush (-33), 2) := by decide +kernel
theorem d_Lk_register_13 : decode b_Lk_register 13 = .ok (.ireturn, 1) := by decide +kernel
theorem d_Lk_register_14 : decode b_Lk_register 14 = .ok (.aload_n 0, 1) := by decide +kernel
theorem d_Lk_register_15 : decode b_Lk_register 15 = .ok (.invokevirtual 129, 3) := by decide +kernel
theorem d_Lk_register_18 : decode b_Lk_register 18 = .ok (.istore_n 2, 1) := by decide +kernel
theorem d_Lk_register_19 : decode b_Lk_register 19 = .ok (.iload_n 2, 1) := by decide +kernel
theorem d_Lk_register_20 : decode b_Lk_register 20 = .ok (.iconst (-1), 1) := by decide +kernel
theorem d_Lk_register_21 : decode b_Lk_register 21 = .ok (.if_icmp .ne 14, 3) := by decide +kernel
theorem d_Lk_register_24 : decode b_Lk_register 24 = .ok (.aload_n 0, 1) := by decide +kernel
theorem d_Lk_register_25 : decode b_Lk_register 25 = .ok (.getfield 52, 3) := by decide +kernel
theorem d_Lk_register_28 : decode b_Lk_register 28 = .ok (.getfield 136, 3) := by decide +kernel
theorem d_Lk_register_31 : decode b_Lk_register 31 = .ok (.ineg, 1) := by decide +kernel
theorem d_Lk_register_32 : decode b_Lk_register 32 = .ok (.goto 9, 3) := by decide +kernel
theorem d_Lk_register_35 : decode b_Lk_register 35 = .ok (.aload_n 0, 1) := by decide +kernel
theorem d_Lk_register_36 : decode b_Lk_register 36 = .ok (.iload_n 1, 1) := by decide +kernel
theorem d_Lk_register_37 : decode b_Lk_register 37 = .ok (.iload_n 2, 1) := by decide +kernel
theorem d_Lk_register_38 : decode b_Lk_register 38 = .ok (.invokevirtual 142, 3) := by decide +kernel
theorem d_Lk_register_41 : decode b_Lk_register 41 = .ok (.istore_n 3, 1) := by decide +kernel
theorem d_Lk_register_42 : decode b_Lk_register 42 = .ok (.iload_n 3, 1) := by decide +kernel
theorem d_Lk_register_43 : decode b_Lk_register 43 = .ok (.ifCond .ge 9, 3) := by decide +kernel
theorem d_Lk_register_46 : decode b_Lk_register 46 = .ok (.iload_n 3, 1) := by decide +kernel
theorem d_Lk_register_47 : decode b_Lk_register 47 = .ok (.bipush (-32), 2) := by decide +kernel
theorem d_Lk_register_49 : decode b_Lk_register 49 = .ok (.if_icmp .ne 14, 3) := by decide +kernel
theorem d_Lk_register_52 : decode b_Lk_register 52 = .ok (.aload_n 0, 1) := by decide +kernel
theorem d_Lk_register_53 : decode b_Lk_register 53 = .ok (.getfield 14, 3) := by decide +kernel
theorem d_Lk_register_56 : decode b_Lk_register 56 = .ok (.iconst 0, 1) := by decide +kernel
theorem d_Lk_register_57 : decode b_Lk_register 57 = .ok (.putfield 110, 3) := by decide +kernel
theorem d_Lk_register_60 : decode b_Lk_register 60 = .ok (.goto 10, 3) := by decide +kernel
theorem d_Lk_register_63 : decode b_Lk_register 63 = .ok (.aload_n 0, 1) := by decide +kernel
theorem d_Lk_register_64 : decode b_Lk_register 64 = .ok (.getfield 43, 3) := by decide +kernel
theorem d_Lk_register_67 : decode b_Lk_register 67 = .ok (.invokevirtual 133, 3) := by decide +kernel
theorem d_Lk_register_70 : decode b_Lk_register 70 = .ok (.iload_n 3, 1) := by decide +kernel
theorem d_Lk_register_71 : decode b_Lk_register 71 = .ok (.ireturn, 1) := by decide +kernel
abbrev b_Lk_copy : ByteArray := prog_1_method_10_code
abbrev y_Lk_copy : MethodName := ⟨"RecordLake", "copy", "(III)I"⟩
abbrev w_Lk_copy : List Cond := Cond.code y_Lk_copy b_Lk_copy 6 (some .int) :: gW
theorem d_Lk_copy_0 : decode b_Lk_copy 0 = .ok (.iload_n 1, 1) := by decide +kernel
theorem d_Lk_copy_1 : decode b_Lk_copy 1 = .ok (.invokestatic 139, 3) := by decide +kernel
theorem d_Lk_copy_4 : decode b_Lk_copy 4 = .ok (.iload_n 2, 1) := by decide +kernel
theorem d_Lk_copy_5 : decode b_Lk_copy 5 = .ok (.invokestatic 139, 3) := by decide +kernel
theorem d_Lk_copy_8 : decode b_Lk_copy 8 = .ok (.aload_n 0, 1) := by decide +kernel
theorem d_Lk_copy_9 : decode b_Lk_copy 9 = .ok (.getfield 106, 3) := by decide +kernel
theorem d_Lk_copy_12 : decode b_Lk_copy 12 = .ok (.ifCond .eq 6, 3) := by decide +kernel
theorem d_Lk_copy_15 : decode b_Lk_copy 15 = .ok (.bipush (-33), 2) := by decide +kernel
theorem d_Lk_copy_17 : decode b_Lk_copy 17 = .ok (.ireturn, 1) := by decide +kernel
theorem d_Lk_copy_18 : decode b_Lk_copy 18 = .ok (.aload_n 0, 1) := by decide +kernel
theorem d_Lk_copy_19 : decode b_Lk_copy 19 = .ok (.iload_n 2, 1) := by decide +kernel
theorem d_Lk_copy_20 : decode b_Lk_copy 20 = .ok (.iload_n 3, 1) := by decide +kernel
theorem d_Lk_copy_21 : decode b_Lk_copy 21 = .ok (.invokevirtual 146, 3) := by decide +kernel
theorem d_Lk_copy_24 : decode b_Lk_copy 24 = .ok (.aload_n 0, 1) := by decide +kernel
theorem d_Lk_copy_25 : decode b_Lk_copy 25 = .ok (.iload_n 1, 1) := by decide +kernel
theorem d_Lk_copy_26 : decode b_Lk_copy 26 = .ok (.aload_n 0, 1) := by decide +kernel
theorem d_Lk_copy_27 : decode b_Lk_copy 27 = .ok (.getfield 43, 3) := by decide +kernel
theorem d_Lk_copy_30 : decode b_Lk_copy 30 = .ok (.iload_n 2, 1) := by decide +kernel
theorem d_Lk_copy_31 : decode b_Lk_copy 31 = .ok (.iload_n 3, 1) := by decide +kernel
theorem d_Lk_copy_32 : decode b_Lk_copy 32 = .ok (.invokevirtual 150, 3) := by decide +kernel
theorem d_Lk_copy_35 : decode b_Lk_copy 35 = .ok (.invokevirtual 193, 3) := by decide +kernel
theorem d_Lk_copy_38 : decode b_Lk_copy 38 = .ok (.istore 4, 2) := by decide +kernel
theorem d_Lk_copy_40 : decode b_Lk_copy 40 = .ok (.iload 4, 2) := by decide +kernel
theorem d_Lk_copy_42 : decode b_Lk_copy 42 = .ok (.ifCond .ge 6, 3) := by decide +kernel
theorem d_Lk_copy_45 : decode b_Lk_copy 45 = .ok (.iload 4, 2) := by decide +kernel
theorem d_Lk_copy_47 : decode b_Lk_copy 47 = .ok (.ireturn, 1) := by decide +kernel
theorem d_Lk_copy_48 : decode b_Lk_copy 48 = .ok (.aload_n 0, 1) := by decide +kernel
theorem d_Lk_copy_49 : decode b_Lk_copy 49 = .ok (.iload 4, 2) := by decide +kernel
theorem d_Lk_copy_51 : decode b_Lk_copy 51 = .ok (.aload_n 0, 1) := by decide +kernel
theorem d_Lk_copy_52 : decode b_Lk_copy 52 = .ok (.getfield 27, 3) := by decide +kernel
theorem d_Lk_copy_55 : decode b_Lk_copy 55 = .ok (.invokevirtual 160, 3) := by decide +kernel
theorem d_Lk_copy_58 : decode b_Lk_copy 58 = .ok (.ifCond .eq 14, 3) := by decide +kernel
theorem d_Lk_copy_61 : decode b_Lk_copy 61 = .ok (.aload_n 0, 1) := by decide +kernel
theorem d_Lk_copy_62 : decode b_Lk_copy 62 = .ok (.iload_n 2, 1) := by decide +kernel
theorem d_Lk_copy_63 : decode b_Lk_copy 63 = .ok (.iload_n 3, 1) := by decide +kernel
theorem d_Lk_copy_64 : decode b_Lk_copy 64 = .ok (.iload 4, 2) := by decide +kernel
theorem d_Lk_copy_66 : decode b_Lk_copy 66 = .ok (.invokevirtual 164, 3) := by decide +kernel
theorem d_Lk_copy_69 : decode b_Lk_copy 69 = .ok (.goto 5, 3) := by decide +kernel
theorem d_Lk_copy_72 : decode b_Lk_copy 72 = .ok (.bipush (-31), 2) := by decide +kernel
theorem d_Lk_copy_74 : decode b_Lk_copy 74 = .ok (.istore 5, 2) := by decide +kernel
theorem d_Lk_copy_76 : decode b_Lk_copy 76 = .ok (.iload 5, 2) := by decide +kernel
theorem d_Lk_copy_78 : decode b_Lk_copy 78 = .ok (.ifCond .ne 8, 3) := by decide +kernel
theorem d_Lk_copy_81 : decode b_Lk_copy 81 = .ok (.iload 4, 2) := by decide +kernel
theorem d_Lk_copy_83 : decode b_Lk_copy 83 = .ok (.goto 5, 3) := by decide +kernel
theorem d_Lk_copy_86 : decode b_Lk_copy 86 = .ok (.iload 5, 2) := by decide +kernel
theorem d_Lk_copy_88 : decode b_Lk_copy 88 = .ok (.ireturn, 1) := by decide +kernel
abbrev b_Lk_fits : ByteArray := prog_1_method_13_code
abbrev y_Lk_fits : MethodName := ⟨"RecordLake", "fits", "(IIII)Z"⟩
abbrev w_Lk_fits : List Cond := Cond.code y_Lk_fits b_Lk_fits 5 (some .boolean) :: gW
theorem d_Lk_fits_0 : decode b_Lk_fits 0 = .ok (.iload_n 1, 1) := by decide +kernel
theorem d_Lk_fits_1 : decode b_Lk_fits 1 = .ok (.invokestatic 139, 3) := by decide +kernel
theorem d_Lk_fits_4 : decode b_Lk_fits 4 = .ok (.iload_n 3, 1) := by decide +kernel
theorem d_Lk_fits_5 : decode b_Lk_fits 5 = .ok (.invokestatic 139, 3) := by decide +kernel
theorem d_Lk_fits_8 : decode b_Lk_fits 8 = .ok (.aload_n 0, 1) := by decide +kernel
theorem d_Lk_fits_9 : decode b_Lk_fits 9 = .ok (.getfield 106, 3) := by decide +kernel
theorem d_Lk_fits_12 : decode b_Lk_fits 12 = .ok (.ifCond .eq 5, 3) := by decide +kernel
theorem d_Lk_fits_15 : decode b_Lk_fits 15 = .ok (.iconst 0, 1) := by decide +kernel
theorem d_Lk_fits_16 : decode b_Lk_fits 16 = .ok (.ireturn, 1) := by decide +kernel
theorem d_Lk_fits_17 : decode b_Lk_fits 17 = .ok (.aload_n 0, 1) := by decide +kernel
theorem d_Lk_fits_18 : decode b_Lk_fits 18 = .ok (.iload_n 1, 1) := by decide +kernel
theorem d_Lk_fits_19 : decode b_Lk_fits 19 = .ok (.iload_n 2, 1) := by decide +kernel
theorem d_Lk_fits_20 : decode b_Lk_fits 20 = .ok (.invokevirtual 146, 3) := by decide +kernel
theorem d_Lk_fits_23 : decode b_Lk_fits 23 = .ok (.aload_n 0, 1) := by decide +kernel
theorem d_Lk_fits_24 : decode b_Lk_fits 24 = .ok (.iload_n 3, 1) := by decide +kernel
theorem d_Lk_fits_25 : decode b_Lk_fits 25 = .ok (.iload 4, 2) := by decide +kernel
theorem d_Lk_fits_27 : decode b_Lk_fits 27 = .ok (.invokevirtual 146, 3) := by decide +kernel
theorem d_Lk_fits_30 : decode b_Lk_fits 30 = .ok (.aload_n 0, 1) := by decide +kernel
theorem d_Lk_fits_31 : decode b_Lk_fits 31 = .ok (.getfield 75, 3) := by decide +kernel
theorem d_Lk_fits_34 : decode b_Lk_fits 34 = .ok (.aload_n 0, 1) := by decide +kernel
theorem d_Lk_fits_35 : decode b_Lk_fits 35 = .ok (.getfield 43, 3) := by decide +kernel
theorem d_Lk_fits_38 : decode b_Lk_fits 38 = .ok (.iload_n 1, 1) := by decide +kernel
theorem d_Lk_fits_39 : decode b_Lk_fits 39 = .ok (.iload_n 2, 1) := by decide +kernel
theorem d_Lk_fits_40 : decode b_Lk_fits 40 = .ok (.invokevirtual 150, 3) := by decide +kernel
theorem d_Lk_fits_43 : decode b_Lk_fits 43 = .ok (.aload_n 0, 1) := by decide +kernel
theorem d_Lk_fits_44 : decode b_Lk_fits 44 = .ok (.getfield 43, 3) := by decide +kernel
theorem d_Lk_fits_47 : decode b_Lk_fits 47 = .ok (.iload_n 1, 1) := by decide +kernel
theorem d_Lk_fits_48 : decode b_Lk_fits 48 = .ok (.iload_n 2, 1) := by decide +kernel
theorem d_Lk_fits_49 : decode b_Lk_fits 49 = .ok (.invokevirtual 222, 3) := by decide +kernel
theorem d_Lk_fits_52 : decode b_Lk_fits 52 = .ok (.aload_n 0, 1) := by decide +kernel
theorem d_Lk_fits_53 : decode b_Lk_fits 53 = .ok (.getfield 43, 3) := by decide +kernel
theorem d_Lk_fits_56 : decode b_Lk_fits 56 = .ok (.iload_n 3, 1) := by decide +kernel
theorem d_Lk_fits_57 : decode b_Lk_fits 57 = .ok (.iload 4, 2) := by decide +kernel
theorem d_Lk_fits_59 : decode b_Lk_fits 59 = .ok (.invokevirtual 150, 3) := by decide +kernel
theorem d_Lk_fits_62 : decode b_Lk_fits 62 = .ok (.aload_n 0, 1) := by decide +kernel
theorem d_Lk_fits_63 : decode b_Lk_fits 63 = .ok (.getfield 43, 3) := by decide +kernel
theorem d_Lk_fits_66 : decode b_Lk_fits 66 = .ok (.iload_n 3, 1) := by decide +kernel
theorem d_Lk_fits_67 : decode b_Lk_fits 67 = .ok (.iload 4, 2) := by decide +kernel
theorem d_Lk_fits_69 : decode b_Lk_fits 69 = .ok (.invokevirtual 222, 3) := by decide +kernel
theorem d_Lk_fits_72 : decode b_Lk_fits 72 = .ok (.invokevirtual 225, 3) := by decide +kernel
theorem d_Lk_fits_75 : decode b_Lk_fits 75 = .ok (.ireturn, 1) := by decide +kernel
