/-! names: methods, their instructions, words -/
theorem mw_201 : Cond.fieldLink "RecordLake" 232 "RecordLake$Schemas" "versions" "[I" ∈ gW := gw_of (List.mem_of_getElem? (i := 201) (by decide +kernel)) (by decide +kernel)
theorem mw_458 : Cond.fieldLink "RecordLake$FileList" 40 "RecordLake$FileList" "length" "I" ∈ gW := gw_of (List.mem_of_getElem? (i := 458) (by decide +kernel)) (by decide +kernel)
theorem mw_1233 : Cond.code ⟨"RecordLake", "needVersion", "(II)V"⟩ prog_1_method_23_code 3 none ∈ gW := gw_of (List.mem_of_getElem? (i := 1233) (by decide +kernel)) (by decide +kernel)
theorem mw_1332 : Cond.methodLink "RecordLake$FileList" 44 ⟨"RecordLake$FileList", "isRowsOf", "(II)Z"⟩ ∈ gW := gw_of (List.mem_of_getElem? (i := 1332) (by decide +kernel)) (by decide +kernel)
theorem mw_1333 : Cond.instanceMethod ⟨"RecordLake$FileList", "isRowsOf", "(II)Z"⟩ ∈ gW := gw_of (List.mem_of_getElem? (i := 1333) (by decide +kernel)) (by decide +kernel)
theorem mw_1334 : Cond.selects "RecordLake$FileList" ⟨"RecordLake$FileList", "isRowsOf", "(II)Z"⟩ ⟨"RecordLake$FileList", "isRowsOf", "(II)Z"⟩ ∈ gW := gw_of (List.mem_of_getElem? (i := 1334) (by decide +kernel)) (by decide +kernel)
theorem mw_1335 : Cond.code ⟨"RecordLake$FileList", "isRowsOf", "(II)Z"⟩ prog_5_method_2_code 3 (some .boolean) ∈ gW := gw_of (List.mem_of_getElem? (i := 1335) (by decide +kernel)) (by decide +kernel)
theorem mw_1350 : Cond.methodLink "RecordLake$FileList" 48 ⟨"RecordLake$FileList", "rowsUpTo", "(II)I"⟩ ∈ gW := gw_of (List.mem_of_getElem? (i := 1350) (by decide +kernel)) (by decide +kernel)
theorem mw_1352 : Cond.instanceMethod ⟨"RecordLake$FileList", "rowsUpTo", "(II)I"⟩ ∈ gW := gw_of (List.mem_of_getElem? (i := 1352) (by decide +kernel)) (by decide +kernel)
theorem mw_1353 : Cond.code ⟨"RecordLake$FileList", "rowsUpTo", "(II)I"⟩ prog_5_method_7_code 5 (some .int) ∈ gW := gw_of (List.mem_of_getElem? (i := 1353) (by decide +kernel)) (by decide +kernel)
theorem mw_1478 : Cond.code ⟨"RecordLake$FileList", "rowsOf", "(I)I"⟩ prog_5_method_5_code 2 (some .int) ∈ gW := gw_of (List.mem_of_getElem? (i := 1478) (by decide +kernel)) (by decide +kernel)
theorem mw_1504 : Cond.code ⟨"RecordLake$FileList", "filesOf", "(I)I"⟩ prog_5_method_4_code 4 (some .int) ∈ gW := gw_of (List.mem_of_getElem? (i := 1504) (by decide +kernel)) (by decide +kernel)
theorem mw_1539 : Cond.code ⟨"RecordLake", "file", "(II)I"⟩ prog_1_method_18_code 3 (some .int) ∈ gW := gw_of (List.mem_of_getElem? (i := 1539) (by decide +kernel)) (by decide +kernel)
theorem ms_76 : Cond.selects "RecordLake$FileList" ⟨"RecordLake$FileList", "rowsUpTo", "(II)I"⟩ ⟨"RecordLake$FileList", "rowsUpTo", "(II)I"⟩ ∈ gW := gw_sel (List.mem_of_getElem? (i := 76) (by decide +kernel)) (by decide +kernel)
abbrev b_Fl_isRowsOf : ByteArray := prog_5_method_2_code
abbrev y_Fl_isRowsOf : MethodName := ⟨"RecordLake$FileList", "isRowsOf", "(II)Z"⟩
abbrev w_Fl_isRowsOf : List Cond := Cond.code y_Fl_isRowsOf b_Fl_isRowsOf 3 (some .boolean) :: gW
theorem d_Fl_isRowsOf_0 : decode b_Fl_isRowsOf 0 = .ok (.aload_n 0, 1) := by decide +kernel
theorem d_Fl_isRowsOf_1 : decode b_Fl_isRowsOf 1 = .ok (.getfield 11, 3) := by decide +kernel
theorem d_Fl_isRowsOf_4 : decode b_Fl_isRowsOf 4 = .ok (.iload_n 1, 1) := by decide +kernel
theorem d_Fl_isRowsOf_5 : decode b_Fl_isRowsOf 5 = .ok (.iaload, 1) := by decide +kernel
theorem d_Fl_isRowsOf_6 : decode b_Fl_isRowsOf 6 = .ok (.iload_n 2, 1) := by decide +kernel
theorem d_Fl_isRowsOf_7 : decode b_Fl_isRowsOf 7 = .ok (.if_icmp .ne 17, 3) := by decide +kernel
theorem d_Fl_isRowsOf_10 : decode b_Fl_isRowsOf 10 = .ok (.aload_n 0, 1) := by decide +kernel
theorem d_Fl_isRowsOf_11 : decode b_Fl_isRowsOf 11 = .ok (.getfield 24, 3) := by decide +kernel
theorem d_Fl_isRowsOf_14 : decode b_Fl_isRowsOf 14 = .ok (.iload_n 1, 1) := by decide +kernel
theorem d_Fl_isRowsOf_15 : decode b_Fl_isRowsOf 15 = .ok (.iaload, 1) := by decide +kernel
theorem d_Fl_isRowsOf_16 : decode b_Fl_isRowsOf 16 = .ok (.iconst (-1), 1) := by decide +kernel
theorem d_Fl_isRowsOf_17 : decode b_Fl_isRowsOf 17 = .ok (.if_icmp .eq 7, 3) := by decide +kernel
theorem d_Fl_isRowsOf_20 : decode b_Fl_isRowsOf 20 = .ok (.iconst 1, 1) := by decide +kernel
theorem d_Fl_isRowsOf_21 : decode b_Fl_isRowsOf 21 = .ok (.goto 4, 3) := by decide +kernel
theorem d_Fl_isRowsOf_24 : decode b_Fl_isRowsOf 24 = .ok (.iconst 0, 1) := by decide +kernel
theorem d_Fl_isRowsOf_25 : decode b_Fl_isRowsOf 25 = .ok (.ireturn, 1) := by decide +kernel
abbrev b_Fl_filesOf : ByteArray := prog_5_method_4_code
abbrev y_Fl_filesOf : MethodName := ⟨"RecordLake$FileList", "filesOf", "(I)I"⟩
abbrev w_Fl_filesOf : List Cond := Cond.code y_Fl_filesOf b_Fl_filesOf 4 (some .int) :: gW
theorem d_Fl_filesOf_0 : decode b_Fl_filesOf 0 = .ok (.iconst 0, 1) := by decide +kernel
theorem d_Fl_filesOf_1 : decode b_Fl_filesOf 1 = .ok (.istore_n 2, 1) := by decide +kernel
theorem d_Fl_filesOf_2 : decode b_Fl_filesOf 2 = .ok (.iconst 0, 1) := by decide +kernel
theorem d_Fl_filesOf_3 : decode b_Fl_filesOf 3 = .ok (.istore_n 3, 1) := by decide +kernel
theorem d_Fl_filesOf_4 : decode b_Fl_filesOf 4 = .ok (.iload_n 3, 1) := by decide +kernel
theorem d_Fl_filesOf_5 : decode b_Fl_filesOf 5 = .ok (.aload_n 0, 1) := by decide +kernel
theorem d_Fl_filesOf_6 : decode b_Fl_filesOf 6 = .ok (.getfield 40, 3) := by decide +kernel
theorem d_Fl_filesOf_9 : decode b_Fl_filesOf 9 = .ok (.if_icmp .ge 26, 3) := by decide +kernel
theorem d_Fl_filesOf_12 : decode b_Fl_filesOf 12 = .ok (.iload_n 2, 1) := by decide +kernel
theorem d_Fl_filesOf_13 : decode b_Fl_filesOf 13 = .ok (.aload_n 0, 1) := by decide +kernel
theorem d_Fl_filesOf_14 : decode b_Fl_filesOf 14 = .ok (.iload_n 3, 1) := by decide +kernel
theorem d_Fl_filesOf_15 : decode b_Fl_filesOf 15 = .ok (.iload_n 1, 1) := by decide +kernel
theorem d_Fl_filesOf_16 : decode b_Fl_filesOf 16 = .ok (.invokevirtual 44, 3) := by decide +kernel
theorem d_Fl_filesOf_19 : decode b_Fl_filesOf 19 = .ok (.ifCond .eq 7, 3) := by decide +kernel
theorem d_Fl_filesOf_22 : decode b_Fl_filesOf 22 = .ok (.iconst 1, 1) := by decide +kernel
theorem d_Fl_filesOf_23 : decode b_Fl_filesOf 23 = .ok (.goto 4, 3) := by decide +kernel
theorem d_Fl_filesOf_26 : decode b_Fl_filesOf 26 = .ok (.iconst 0, 1) := by decide +kernel
theorem d_Fl_filesOf_27 : decode b_Fl_filesOf 27 = .ok (.iadd, 1) := by decide +kernel
theorem d_Fl_filesOf_28 : decode b_Fl_filesOf 28 = .ok (.istore_n 2, 1) := by decide +kernel
theorem d_Fl_filesOf_29 : decode b_Fl_filesOf 29 = .ok (.iinc 3 1, 3) := by decide +kernel
theorem d_Fl_filesOf_32 : decode b_Fl_filesOf 32 = .ok (.goto (-28), 3) := by decide +kernel
theorem d_Fl_filesOf_35 : decode b_Fl_filesOf 35 = .ok (.iload_n 2, 1) := by decide +kernel
theorem d_Fl_filesOf_36 : decode b_Fl_filesOf 36 = .ok (.ireturn, 1) := by decide +kernel
abbrev b_Fl_rowsUpTo : ByteArray := prog_5_method_7_code
abbrev y_Fl_rowsUpTo : MethodName := ⟨"RecordLake$FileList", "rowsUpTo", "(II)I"⟩
abbrev w_Fl_rowsUpTo : List Cond := Cond.code y_Fl_rowsUpTo b_Fl_rowsUpTo 5 (some .int) :: gW
theorem d_Fl_rowsUpTo_0 : decode b_Fl_rowsUpTo 0 = .ok (.iconst 0, 1) := by decide +kernel
theorem d_Fl_rowsUpTo_1 : decode b_Fl_rowsUpTo 1 = .ok (.istore_n 3, 1) := by decide +kernel
theorem d_Fl_rowsUpTo_2 : decode b_Fl_rowsUpTo 2 = .ok (.iconst 0, 1) := by decide +kernel
theorem d_Fl_rowsUpTo_3 : decode b_Fl_rowsUpTo 3 = .ok (.istore 4, 2) := by decide +kernel
theorem d_Fl_rowsUpTo_5 : decode b_Fl_rowsUpTo 5 = .ok (.iload 4, 2) := by decide +kernel
theorem d_Fl_rowsUpTo_7 : decode b_Fl_rowsUpTo 7 = .ok (.iload_n 2, 1) := by decide +kernel
theorem d_Fl_rowsUpTo_8 : decode b_Fl_rowsUpTo 8 = .ok (.if_icmp .ge 33, 3) := by decide +kernel
theorem d_Fl_rowsUpTo_11 : decode b_Fl_rowsUpTo 11 = .ok (.iload_n 3, 1) := by decide +kernel
theorem d_Fl_rowsUpTo_12 : decode b_Fl_rowsUpTo 12 = .ok (.aload_n 0, 1) := by decide +kernel
theorem d_Fl_rowsUpTo_13 : decode b_Fl_rowsUpTo 13 = .ok (.iload 4, 2) := by decide +kernel
theorem d_Fl_rowsUpTo_15 : decode b_Fl_rowsUpTo 15 = .ok (.iload_n 1, 1) := by decide +kernel
theorem d_Fl_rowsUpTo_16 : decode b_Fl_rowsUpTo 16 = .ok (.invokevirtual 44, 3) := by decide +kernel
theorem d_Fl_rowsUpTo_19 : decode b_Fl_rowsUpTo 19 = .ok (.ifCond .eq 13, 3) := by decide +kernel
theorem d_Fl_rowsUpTo_22 : decode b_Fl_rowsUpTo 22 = .ok (.aload_n 0, 1) := by decide +kernel
theorem d_Fl_rowsUpTo_23 : decode b_Fl_rowsUpTo 23 = .ok (.getfield 24, 3) := by decide +kernel
theorem d_Fl_rowsUpTo_26 : decode b_Fl_rowsUpTo 26 = .ok (.iload 4, 2) := by decide +kernel
theorem d_Fl_rowsUpTo_28 : decode b_Fl_rowsUpTo 28 = .ok (.iaload, 1) := by decide +kernel
theorem d_Fl_rowsUpTo_29 : decode b_Fl_rowsUpTo 29 = .ok (.goto 4, 3) := by decide +kernel
theorem d_Fl_rowsUpTo_32 : decode b_Fl_rowsUpTo 32 = .ok (.iconst 0, 1) := by decide +kernel
theorem d_Fl_rowsUpTo_33 : decode b_Fl_rowsUpTo 33 = .ok (.iadd, 1) := by decide +kernel
theorem d_Fl_rowsUpTo_34 : decode b_Fl_rowsUpTo 34 = .ok (.istore_n 3, 1) := by decide +kernel
theorem d_Fl_rowsUpTo_35 : decode b_Fl_rowsUpTo 35 = .ok (.iinc 4 1, 3) := by decide +kernel
theorem d_Fl_rowsUpTo_38 : decode b_Fl_rowsUpTo 38 = .ok (.goto (-33), 3) := by decide +kernel
theorem d_Fl_rowsUpTo_41 : decode b_Fl_rowsUpTo 41 = .ok (.iload_n 3, 1) := by decide +kernel
theorem d_Fl_rowsUpTo_42 : decode b_Fl_rowsUpTo 42 = .ok (.ireturn, 1) := by decide +kernel
abbrev b_Fl_rowsOf : ByteArray := prog_5_method_5_code
abbrev y_Fl_rowsOf : MethodName := ⟨"RecordLake$FileList", "rowsOf", "(I)I"⟩
abbrev w_Fl_rowsOf : List Cond := Cond.code y_Fl_rowsOf b_Fl_rowsOf 2 (some .int) :: gW
theorem d_Fl_rowsOf_0 : decode b_Fl_rowsOf 0 = .ok (.aload_n 0, 1) := by decide +kernel
theorem d_Fl_rowsOf_1 : decode b_Fl_rowsOf 1 = .ok (.iload_n 1, 1) := by decide +kernel
theorem d_Fl_rowsOf_2 : decode b_Fl_rowsOf 2 = .ok (.aload_n 0, 1) := by decide +kernel
theorem d_Fl_rowsOf_3 : decode b_Fl_rowsOf 3 = .ok (.getfield 40, 3) := by decide +kernel
theorem d_Fl_rowsOf_6 : decode b_Fl_rowsOf 6 = .ok (.invokevirtual 48, 3) := by decide +kernel
theorem d_Fl_rowsOf_9 : decode b_Fl_rowsOf 9 = .ok (.ireturn, 1) := by decide +kernel
abbrev b_Lk_needVersion : ByteArray := prog_1_method_23_code
abbrev y_Lk_needVersion : MethodName := ⟨"RecordLake", "needVersion", "(II)V"⟩
abbrev w_Lk_needVersion : List Cond := Cond.code y_Lk_needVersion b_Lk_needVersion 3 none :: gW
theorem d_Lk_needVersion_0 : decode b_Lk_needVersion 0 = .ok (.iload_n 2, 1) := by decide +kernel
theorem d_Lk_needVersion_1 : decode b_Lk_needVersion 1 = .ok (.ifCond .lt 16, 3) := by decide +kernel
theorem d_Lk_needVersion_4 : decode b_Lk_needVersion 4 = .ok (.iload_n 2, 1) := by decide +kernel
theorem d_Lk_needVersion_5 : decode b_Lk_needVersion 5 = .ok (.aload_n 0, 1) := by decide +kernel
theorem d_Lk_needVersion_6 : decode b_Lk_needVersion 6 = .ok (.getfield 43, 3) := by decide +kernel
theorem d_Lk_needVersion_9 : decode b_Lk_needVersion 9 = .ok (.getfield 232, 3) := by decide +kernel
theorem d_Lk_needVersion_12 : decode b_Lk_needVersion 12 = .ok (.iload_n 1, 1) := by decide +kernel
theorem d_Lk_needVersion_13 : decode b_Lk_needVersion 13 = .ok (.iaload, 1) := by decide +kernel
theorem d_Lk_needVersion_14 : decode b_Lk_needVersion 14 = .ok (.if_icmp .lt 14, 3) := by decide +kernel
theorem d_Lk_needVersion_17 : decode b_Lk_needVersion 17 = .ok (.new 171, 3) := by decide +kernel
theorem d_Lk_needVersion_20 : decode b_Lk_needVersion 20 = .ok (.dup, 1) := by decide +kernel
theorem d_Lk_needVersion_21 : decode b_Lk_needVersion 21 = .ok (.ldc_w 277, 3) := by decide +kernel
theorem d_Lk_needVersion_24 : decode b_Lk_needVersion 24 = .ok (.invokespecial 175, 3) := by decide +kernel
theorem d_Lk_needVersion_27 : decode b_Lk_needVersion 27 = .ok (.athrow, 1) := by decide +kernel
theorem d_Lk_needVersion_28 : decode b_Lk_needVersion 28 = .ok (.return_, 1) := by decide +kernel
abbrev b_Lk_file : ByteArray := prog_1_method_18_code
abbrev y_Lk_file : MethodName := ⟨"RecordLake", "file", "(II)I"⟩
abbrev w_Lk_file : List Cond := Cond.code y_Lk_file b_Lk_file 3 (some .int) :: gW
theorem d_Lk_file_0 : decode b_Lk_file 0 = .ok (.aload_n 0, 1) := by decide +kernel
theorem d_Lk_file_1 : decode b_Lk_file 1 = .ok (.getfield 106, 3) := by decide +kernel
theorem d_Lk_file_4 : decode b_Lk_file 4 = .ok (.ifCond .ne 28, 3) := by decide +kernel
theorem d_Lk_file_7 : decode b_Lk_file 7 = .ok (.iload_n 1, 1) := by decide +kernel
theorem d_Lk_file_8 : decode b_Lk_file 8 = .ok (.ifCond .lt 14, 3) := by decide +kernel
theorem d_Lk_file_11 : decode b_Lk_file 11 = .ok (.iload_n 1, 1) := by decide +kernel
theorem d_Lk_file_12 : decode b_Lk_file 12 = .ok (.aload_n 0, 1) := by decide +kernel
theorem d_Lk_file_13 : decode b_Lk_file 13 = .ok (.getfield 98, 3) := by decide +kernel
theorem d_Lk_file_16 : decode b_Lk_file 16 = .ok (.getfield 196, 3) := by decide +kernel
theorem d_Lk_file_19 : decode b_Lk_file 19 = .ok (.if_icmp .lt 13, 3) := by decide +kernel
theorem d_Lk_file_22 : decode b_Lk_file 22 = .ok (.new 171, 3) := by decide +kernel
theorem d_Lk_file_25 : decode b_Lk_file 25 = .ok (.dup, 1) := by decide +kernel
theorem d_Lk_file_26 : decode b_Lk_file 26 = .ok (.ldc 247, 2) := by decide +kernel
theorem d_Lk_file_28 : decode b_Lk_file 28 = .ok (.invokespecial 175, 3) := by decide +kernel
theorem d_Lk_file_31 : decode b_Lk_file 31 = .ok (.athrow, 1) := by decide +kernel
theorem d_Lk_file_32 : decode b_Lk_file 32 = .ok (.iload_n 2, 1) := by decide +kernel
theorem d_Lk_file_33 : decode b_Lk_file 33 = .ok (.iconst 4, 1) := by decide +kernel
theorem d_Lk_file_34 : decode b_Lk_file 34 = .ok (.invokestatic 229, 3) := by decide +kernel
theorem d_Lk_file_37 : decode b_Lk_file 37 = .ok (.aload_n 0, 1) := by decide +kernel
theorem d_Lk_file_38 : decode b_Lk_file 38 = .ok (.getfield 106, 3) := by decide +kernel
theorem d_Lk_file_41 : decode b_Lk_file 41 = .ok (.ifCond .eq 6, 3) := by decide +kernel
theorem d_Lk_file_44 : decode b_Lk_file 44 = .ok (.bipush (-33), 2) := by decide +kernel
theorem d_Lk_file_46 : decode b_Lk_file 46 = .ok (.ireturn, 1) := by decide +kernel
theorem d_Lk_file_47 : decode b_Lk_file 47 = .ok (.iload_n 2, 1) := by decide +kernel
theorem d_Lk_file_48 : decode b_Lk_file 48 = .ok (.tableswitch 72 0 3 #[32, 42, 52, 62], 32) := by decide +kernel
theorem d_Lk_file_80 : decode b_Lk_file 80 = .ok (.aload_n 0, 1) := by decide +kernel
theorem d_Lk_file_81 : decode b_Lk_file 81 = .ok (.getfield 98, 3) := by decide +kernel
theorem d_Lk_file_84 : decode b_Lk_file 84 = .ok (.getfield 249, 3) := by decide +kernel
theorem d_Lk_file_87 : decode b_Lk_file 87 = .ok (.iload_n 1, 1) := by decide +kernel
theorem d_Lk_file_88 : decode b_Lk_file 88 = .ok (.iaload, 1) := by decide +kernel
theorem d_Lk_file_89 : decode b_Lk_file 89 = .ok (.ireturn, 1) := by decide +kernel
theorem d_Lk_file_90 : decode b_Lk_file 90 = .ok (.aload_n 0, 1) := by decide +kernel
theorem d_Lk_file_91 : decode b_Lk_file 91 = .ok (.getfield 98, 3) := by decide +kernel
theorem d_Lk_file_94 : decode b_Lk_file 94 = .ok (.getfield 176, 3) := by decide +kernel
theorem d_Lk_file_97 : decode b_Lk_file 97 = .ok (.iload_n 1, 1) := by decide +kernel
theorem d_Lk_file_98 : decode b_Lk_file 98 = .ok (.iaload, 1) := by decide +kernel
theorem d_Lk_file_99 : decode b_Lk_file 99 = .ok (.ireturn, 1) := by decide +kernel
theorem d_Lk_file_100 : decode b_Lk_file 100 = .ok (.aload_n 0, 1) := by decide +kernel
theorem d_Lk_file_101 : decode b_Lk_file 101 = .ok (.getfield 98, 3) := by decide +kernel
theorem d_Lk_file_104 : decode b_Lk_file 104 = .ok (.getfield 252, 3) := by decide +kernel
theorem d_Lk_file_107 : decode b_Lk_file 107 = .ok (.iload_n 1, 1) := by decide +kernel
theorem d_Lk_file_108 : decode b_Lk_file 108 = .ok (.iaload, 1) := by decide +kernel
theorem d_Lk_file_109 : decode b_Lk_file 109 = .ok (.ireturn, 1) := by decide +kernel
theorem d_Lk_file_110 : decode b_Lk_file 110 = .ok (.aload_n 0, 1) := by decide +kernel
theorem d_Lk_file_111 : decode b_Lk_file 111 = .ok (.getfield 98, 3) := by decide +kernel
theorem d_Lk_file_114 : decode b_Lk_file 114 = .ok (.getfield 255, 3) := by decide +kernel
theorem d_Lk_file_117 : decode b_Lk_file 117 = .ok (.iload_n 1, 1) := by decide +kernel
theorem d_Lk_file_118 : decode b_Lk_file 118 = .ok (.iaload, 1) := by decide +kernel
theorem d_Lk_file_119 : decode b_Lk_file 119 = .ok (.ireturn, 1) := by decide +kernel
theorem d_Lk_file_120 : decode b_Lk_file 120 = .ok (.aload_n 0, 1) := by decide +kernel
theorem d_Lk_file_121 : decode b_Lk_file 121 = .ok (.getfield 98, 3) := by decide +kernel
theorem d_Lk_file_124 : decode b_Lk_file 124 = .ok (.getfield 258, 3) := by decide +kernel
theorem d_Lk_file_127 : decode b_Lk_file 127 = .ok (.iload_n 1, 1) := by decide +kernel
theorem d_Lk_file_128 : decode b_Lk_file 128 = .ok (.iaload, 1) := by decide +kernel
theorem d_Lk_file_129 : decode b_Lk_file 129 = .ok (.ireturn, 1) := by decide +kernel
