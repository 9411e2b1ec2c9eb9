/-! names: methods, their instructions, words -/
theorem mw_13 : Cond.initialized "RecordLakeModel" ∈ gW := gw_of (List.mem_of_getElem? (i := 13) (by decide +kernel)) (by decide +kernel)
theorem mw_1727 : Cond.fieldLink "RecordLakeModel" 111 "RecordLakeModel" "down" "Z" ∈ gW := gw_of (List.mem_of_getElem? (i := 1727) (by decide +kernel)) (by decide +kernel)
theorem mw_1830 : Cond.methodLink "RecordLakeModel" 87 ⟨"RecordLakeModel", "refused", "(ZZ)Z"⟩ ∈ gW := gw_of (List.mem_of_getElem? (i := 1830) (by decide +kernel)) (by decide +kernel)
theorem mw_1832 : Cond.instanceMethod ⟨"RecordLakeModel", "refused", "(ZZ)Z"⟩ ∈ gW := gw_of (List.mem_of_getElem? (i := 1832) (by decide +kernel)) (by decide +kernel)
theorem mw_1842 : Cond.methodLink "RecordLakeModel" 95 ⟨"RecordLakeModel", "within", "(III)Z"⟩ ∈ gW := gw_of (List.mem_of_getElem? (i := 1842) (by decide +kernel)) (by decide +kernel)
theorem mw_1843 : Cond.static ⟨"RecordLakeModel", "within", "(III)Z"⟩ ∈ gW := gw_of (List.mem_of_getElem? (i := 1843) (by decide +kernel)) (by decide +kernel)
theorem mw_2103 : Cond.methodLink "RecordLakeModel" 136 ⟨"RecordLakeModel", "isSubject", "(I)Z"⟩ ∈ gW := gw_of (List.mem_of_getElem? (i := 2103) (by decide +kernel)) (by decide +kernel)
theorem mw_2104 : Cond.static ⟨"RecordLakeModel", "isSubject", "(I)Z"⟩ ∈ gW := gw_of (List.mem_of_getElem? (i := 2104) (by decide +kernel)) (by decide +kernel)
theorem mw_2105 : Cond.code ⟨"RecordLakeModel", "isSubject", "(I)Z"⟩ prog_14_method_8_code 1 (some .boolean) ∈ gW := gw_of (List.mem_of_getElem? (i := 2105) (by decide +kernel)) (by decide +kernel)
theorem mw_2109 : Cond.code ⟨"RecordLakeModel", "versions", "(I)I"⟩ prog_14_method_10_code 4 (some .int) ∈ gW := gw_of (List.mem_of_getElem? (i := 2109) (by decide +kernel)) (by decide +kernel)
theorem mw_2114 : Cond.methodLink "RecordLakeModel" 99 ⟨"RecordLakeModel", "versionFile", "(II)I"⟩ ∈ gW := gw_of (List.mem_of_getElem? (i := 2114) (by decide +kernel)) (by decide +kernel)
theorem mw_2116 : Cond.instanceMethod ⟨"RecordLakeModel", "versionFile", "(II)I"⟩ ∈ gW := gw_of (List.mem_of_getElem? (i := 2116) (by decide +kernel)) (by decide +kernel)
theorem mw_2117 : Cond.code ⟨"RecordLakeModel", "versionFile", "(II)I"⟩ prog_14_method_9_code 4 (some .int) ∈ gW := gw_of (List.mem_of_getElem? (i := 2117) (by decide +kernel)) (by decide +kernel)
theorem mw_2165 : Cond.code ⟨"RecordLakeModel", "look", "(II)I"⟩ prog_14_method_35_code 3 (some .int) ∈ gW := gw_of (List.mem_of_getElem? (i := 2165) (by decide +kernel)) (by decide +kernel)
theorem mw_2166 : Cond.methodLink "RecordLakeModel" 255 ⟨"RecordLakeModel", "isVersion", "(II)Z"⟩ ∈ gW := gw_of (List.mem_of_getElem? (i := 2166) (by decide +kernel)) (by decide +kernel)
theorem mw_2168 : Cond.instanceMethod ⟨"RecordLakeModel", "isVersion", "(II)Z"⟩ ∈ gW := gw_of (List.mem_of_getElem? (i := 2168) (by decide +kernel)) (by decide +kernel)
theorem mw_2169 : Cond.code ⟨"RecordLakeModel", "isVersion", "(II)Z"⟩ prog_14_method_36_code 3 (some .boolean) ∈ gW := gw_of (List.mem_of_getElem? (i := 2169) (by decide +kernel)) (by decide +kernel)
theorem mw_2242 : Cond.code ⟨"RecordLakeModel", "load", "(II)I"⟩ prog_14_method_38_code 5 (some .int) ∈ gW := gw_of (List.mem_of_getElem? (i := 2242) (by decide +kernel)) (by decide +kernel)
theorem mw_2249 : Cond.code ⟨"RecordLakeModel", "fits", "(IIII)Z"⟩ prog_14_method_47_code 6 (some .boolean) ∈ gW := gw_of (List.mem_of_getElem? (i := 2249) (by decide +kernel)) (by decide +kernel)
theorem mw_2253 : Cond.code ⟨"RecordLakeModel", "read", "(III)I"⟩ prog_14_method_61_code 9 (some .int) ∈ gW := gw_of (List.mem_of_getElem? (i := 2253) (by decide +kernel)) (by decide +kernel)
theorem mw_2257 : Cond.code ⟨"RecordLakeModel", "rows", "(I)I"⟩ prog_14_method_60_code 4 (some .int) ∈ gW := gw_of (List.mem_of_getElem? (i := 2257) (by decide +kernel)) (by decide +kernel)
theorem mw_2310 : Cond.code ⟨"RecordLakeModel", "copy", "(III)I"⟩ prog_14_method_63_code 11 (some .int) ∈ gW := gw_of (List.mem_of_getElem? (i := 2310) (by decide +kernel)) (by decide +kernel)
theorem mw_2342 : Cond.code ⟨"RecordLakeModel", "print", "(II)J"⟩ prog_14_method_70_code 3 (some .long) ∈ gW := gw_of (List.mem_of_getElem? (i := 2342) (by decide +kernel)) (by decide +kernel)
theorem ms_96 : Cond.selects "RecordLakeModel" ⟨"RecordLakeModel", "refused", "(ZZ)Z"⟩ ⟨"RecordLakeModel", "refused", "(ZZ)Z"⟩ ∈ gW := gw_sel (List.mem_of_getElem? (i := 96) (by decide +kernel)) (by decide +kernel)
theorem ms_136 : Cond.selects "RecordLakeModel" ⟨"RecordLakeModel", "versionFile", "(II)I"⟩ ⟨"RecordLakeModel", "versionFile", "(II)I"⟩ ∈ gW := gw_sel (List.mem_of_getElem? (i := 136) (by decide +kernel)) (by decide +kernel)
theorem ms_143 : Cond.selects "RecordLakeModel" ⟨"RecordLakeModel", "isVersion", "(II)Z"⟩ ⟨"RecordLakeModel", "isVersion", "(II)Z"⟩ ∈ gW := gw_sel (List.mem_of_getElem? (i := 143) (by decide +kernel)) (by decide +kernel)
abbrev b_Mo_isSubject : ByteArray := prog_14_method_8_code
abbrev y_Mo_isSubject : MethodName := ⟨"RecordLakeModel", "isSubject", "(I)Z"⟩
abbrev w_Mo_isSubject : List Cond := Cond.code y_Mo_isSubject b_Mo_isSubject 1 (some .boolean) :: gW
theorem d_Mo_isSubject_0 : decode b_Mo_isSubject 0 = .ok (.iload_n 0, 1) := by decide +kernel
theorem d_Mo_isSubject_1 : decode b_Mo_isSubject 1 = .ok (.iconst 0, 1) := by decide +kernel
theorem d_Mo_isSubject_2 : decode b_Mo_isSubject 2 = .ok (.iconst 3, 1) := by decide +kernel
theorem d_Mo_isSubject_3 : decode b_Mo_isSubject 3 = .ok (.invokestatic 95, 3) := by decide +kernel
theorem d_Mo_isSubject_6 : decode b_Mo_isSubject 6 = .ok (.ireturn, 1) := by decide +kernel
abbrev b_Mo_versionFile : ByteArray := prog_14_method_9_code
abbrev y_Mo_versionFile : MethodName := ⟨"RecordLakeModel", "versionFile", "(II)I"⟩
abbrev w_Mo_versionFile : List Cond := Cond.code y_Mo_versionFile b_Mo_versionFile 4 (some .int) :: gW
theorem d_Mo_versionFile_0 : decode b_Mo_versionFile 0 = .ok (.iconst 0, 1) := by decide +kernel
theorem d_Mo_versionFile_1 : decode b_Mo_versionFile 1 = .ok (.istore_n 3, 1) := by decide +kernel
theorem d_Mo_versionFile_2 : decode b_Mo_versionFile 2 = .ok (.iload_n 3, 1) := by decide +kernel
theorem d_Mo_versionFile_3 : decode b_Mo_versionFile 3 = .ok (.aload_n 0, 1) := by decide +kernel
theorem d_Mo_versionFile_4 : decode b_Mo_versionFile 4 = .ok (.getfield 78, 3) := by decide +kernel
theorem d_Mo_versionFile_7 : decode b_Mo_versionFile 7 = .ok (.if_icmp .ge 41, 3) := by decide +kernel
theorem d_Mo_versionFile_10 : decode b_Mo_versionFile 10 = .ok (.aload_n 0, 1) := by decide +kernel
theorem d_Mo_versionFile_11 : decode b_Mo_versionFile 11 = .ok (.getfield 39, 3) := by decide +kernel
theorem d_Mo_versionFile_14 : decode b_Mo_versionFile 14 = .ok (.iload_n 3, 1) := by decide +kernel
theorem d_Mo_versionFile_15 : decode b_Mo_versionFile 15 = .ok (.iaload, 1) := by decide +kernel
theorem d_Mo_versionFile_16 : decode b_Mo_versionFile 16 = .ok (.iload_n 1, 1) := by decide +kernel
theorem d_Mo_versionFile_17 : decode b_Mo_versionFile 17 = .ok (.if_icmp .ne 25, 3) := by decide +kernel
theorem d_Mo_versionFile_20 : decode b_Mo_versionFile 20 = .ok (.aload_n 0, 1) := by decide +kernel
theorem d_Mo_versionFile_21 : decode b_Mo_versionFile 21 = .ok (.getfield 52, 3) := by decide +kernel
theorem d_Mo_versionFile_24 : decode b_Mo_versionFile 24 = .ok (.iload_n 3, 1) := by decide +kernel
theorem d_Mo_versionFile_25 : decode b_Mo_versionFile 25 = .ok (.iaload, 1) := by decide +kernel
theorem d_Mo_versionFile_26 : decode b_Mo_versionFile 26 = .ok (.iconst (-1), 1) := by decide +kernel
theorem d_Mo_versionFile_27 : decode b_Mo_versionFile 27 = .ok (.if_icmp .ne 15, 3) := by decide +kernel
theorem d_Mo_versionFile_30 : decode b_Mo_versionFile 30 = .ok (.aload_n 0, 1) := by decide +kernel
theorem d_Mo_versionFile_31 : decode b_Mo_versionFile 31 = .ok (.getfield 43, 3) := by decide +kernel
theorem d_Mo_versionFile_34 : decode b_Mo_versionFile 34 = .ok (.iload_n 3, 1) := by decide +kernel
theorem d_Mo_versionFile_35 : decode b_Mo_versionFile 35 = .ok (.iaload, 1) := by decide +kernel
theorem d_Mo_versionFile_36 : decode b_Mo_versionFile 36 = .ok (.iload_n 2, 1) := by decide +kernel
theorem d_Mo_versionFile_37 : decode b_Mo_versionFile 37 = .ok (.if_icmp .ne 5, 3) := by decide +kernel
theorem d_Mo_versionFile_40 : decode b_Mo_versionFile 40 = .ok (.iload_n 3, 1) := by decide +kernel
theorem d_Mo_versionFile_41 : decode b_Mo_versionFile 41 = .ok (.ireturn, 1) := by decide +kernel
theorem d_Mo_versionFile_42 : decode b_Mo_versionFile 42 = .ok (.iinc 3 1, 3) := by decide +kernel
theorem d_Mo_versionFile_45 : decode b_Mo_versionFile 45 = .ok (.goto (-43), 3) := by decide +kernel
theorem d_Mo_versionFile_48 : decode b_Mo_versionFile 48 = .ok (.iconst (-1), 1) := by decide +kernel
theorem d_Mo_versionFile_49 : decode b_Mo_versionFile 49 = .ok (.ireturn, 1) := by decide +kernel
abbrev b_Mo_rows : ByteArray := prog_14_method_60_code
abbrev y_Mo_rows : MethodName := ⟨"RecordLakeModel", "rows", "(I)I"⟩
abbrev w_Mo_rows : List Cond := Cond.code y_Mo_rows b_Mo_rows 4 (some .int) :: gW
theorem d_Mo_rows_0 : decode b_Mo_rows 0 = .ok (.iconst 0, 1) := by decide +kernel
theorem d_Mo_rows_1 : decode b_Mo_rows 1 = .ok (.istore_n 2, 1) := by decide +kernel
theorem d_Mo_rows_2 : decode b_Mo_rows 2 = .ok (.iconst 0, 1) := by decide +kernel
theorem d_Mo_rows_3 : decode b_Mo_rows 3 = .ok (.istore_n 3, 1) := by decide +kernel
theorem d_Mo_rows_4 : decode b_Mo_rows 4 = .ok (.iload_n 3, 1) := by decide +kernel
theorem d_Mo_rows_5 : decode b_Mo_rows 5 = .ok (.aload_n 0, 1) := by decide +kernel
theorem d_Mo_rows_6 : decode b_Mo_rows 6 = .ok (.getfield 78, 3) := by decide +kernel
theorem d_Mo_rows_9 : decode b_Mo_rows 9 = .ok (.if_icmp .ge 41, 3) := by decide +kernel
theorem d_Mo_rows_12 : decode b_Mo_rows 12 = .ok (.aload_n 0, 1) := by decide +kernel
theorem d_Mo_rows_13 : decode b_Mo_rows 13 = .ok (.getfield 39, 3) := by decide +kernel
theorem d_Mo_rows_16 : decode b_Mo_rows 16 = .ok (.iload_n 3, 1) := by decide +kernel
theorem d_Mo_rows_17 : decode b_Mo_rows 17 = .ok (.iaload, 1) := by decide +kernel
theorem d_Mo_rows_18 : decode b_Mo_rows 18 = .ok (.iload_n 1, 1) := by decide +kernel
theorem d_Mo_rows_19 : decode b_Mo_rows 19 = .ok (.if_icmp .ne 23, 3) := by decide +kernel
theorem d_Mo_rows_22 : decode b_Mo_rows 22 = .ok (.aload_n 0, 1) := by decide +kernel
theorem d_Mo_rows_23 : decode b_Mo_rows 23 = .ok (.getfield 52, 3) := by decide +kernel
theorem d_Mo_rows_26 : decode b_Mo_rows 26 = .ok (.iload_n 3, 1) := by decide +kernel
theorem d_Mo_rows_27 : decode b_Mo_rows 27 = .ok (.iaload, 1) := by decide +kernel
theorem d_Mo_rows_28 : decode b_Mo_rows 28 = .ok (.ifCond .lt 14, 3) := by decide +kernel
theorem d_Mo_rows_31 : decode b_Mo_rows 31 = .ok (.iload_n 2, 1) := by decide +kernel
theorem d_Mo_rows_32 : decode b_Mo_rows 32 = .ok (.aload_n 0, 1) := by decide +kernel
theorem d_Mo_rows_33 : decode b_Mo_rows 33 = .ok (.getfield 52, 3) := by decide +kernel
theorem d_Mo_rows_36 : decode b_Mo_rows 36 = .ok (.iload_n 3, 1) := by decide +kernel
theorem d_Mo_rows_37 : decode b_Mo_rows 37 = .ok (.iaload, 1) := by decide +kernel
theorem d_Mo_rows_38 : decode b_Mo_rows 38 = .ok (.iadd, 1) := by decide +kernel
theorem d_Mo_rows_39 : decode b_Mo_rows 39 = .ok (.goto 4, 3) := by decide +kernel
theorem d_Mo_rows_42 : decode b_Mo_rows 42 = .ok (.iload_n 2, 1) := by decide +kernel
theorem d_Mo_rows_43 : decode b_Mo_rows 43 = .ok (.istore_n 2, 1) := by decide +kernel
theorem d_Mo_rows_44 : decode b_Mo_rows 44 = .ok (.iinc 3 1, 3) := by decide +kernel
theorem d_Mo_rows_47 : decode b_Mo_rows 47 = .ok (.goto (-43), 3) := by decide +kernel
theorem d_Mo_rows_50 : decode b_Mo_rows 50 = .ok (.iload_n 2, 1) := by decide +kernel
theorem d_Mo_rows_51 : decode b_Mo_rows 51 = .ok (.ireturn, 1) := by decide +kernel
abbrev b_Mo_versions : ByteArray := prog_14_method_10_code
abbrev y_Mo_versions : MethodName := ⟨"RecordLakeModel", "versions", "(I)I"⟩
abbrev w_Mo_versions : List Cond := Cond.code y_Mo_versions b_Mo_versions 4 (some .int) :: gW
theorem d_Mo_versions_0 : decode b_Mo_versions 0 = .ok (.iconst 0, 1) := by decide +kernel
theorem d_Mo_versions_1 : decode b_Mo_versions 1 = .ok (.istore_n 2, 1) := by decide +kernel
theorem d_Mo_versions_2 : decode b_Mo_versions 2 = .ok (.iconst 0, 1) := by decide +kernel
theorem d_Mo_versions_3 : decode b_Mo_versions 3 = .ok (.istore_n 3, 1) := by decide +kernel
theorem d_Mo_versions_4 : decode b_Mo_versions 4 = .ok (.iload_n 3, 1) := by decide +kernel
theorem d_Mo_versions_5 : decode b_Mo_versions 5 = .ok (.aload_n 0, 1) := by decide +kernel
theorem d_Mo_versions_6 : decode b_Mo_versions 6 = .ok (.getfield 78, 3) := by decide +kernel
theorem d_Mo_versions_9 : decode b_Mo_versions 9 = .ok (.if_icmp .ge 37, 3) := by decide +kernel
theorem d_Mo_versions_12 : decode b_Mo_versions 12 = .ok (.aload_n 0, 1) := by decide +kernel
theorem d_Mo_versions_13 : decode b_Mo_versions 13 = .ok (.getfield 39, 3) := by decide +kernel
theorem d_Mo_versions_16 : decode b_Mo_versions 16 = .ok (.iload_n 3, 1) := by decide +kernel
theorem d_Mo_versions_17 : decode b_Mo_versions 17 = .ok (.iaload, 1) := by decide +kernel
theorem d_Mo_versions_18 : decode b_Mo_versions 18 = .ok (.iload_n 1, 1) := by decide +kernel
theorem d_Mo_versions_19 : decode b_Mo_versions 19 = .ok (.if_icmp .ne 19, 3) := by decide +kernel
theorem d_Mo_versions_22 : decode b_Mo_versions 22 = .ok (.aload_n 0, 1) := by decide +kernel
theorem d_Mo_versions_23 : decode b_Mo_versions 23 = .ok (.getfield 52, 3) := by decide +kernel
theorem d_Mo_versions_26 : decode b_Mo_versions 26 = .ok (.iload_n 3, 1) := by decide +kernel
theorem d_Mo_versions_27 : decode b_Mo_versions 27 = .ok (.iaload, 1) := by decide +kernel
theorem d_Mo_versions_28 : decode b_Mo_versions 28 = .ok (.iconst (-1), 1) := by decide +kernel
theorem d_Mo_versions_29 : decode b_Mo_versions 29 = .ok (.if_icmp .ne 9, 3) := by decide +kernel
theorem d_Mo_versions_32 : decode b_Mo_versions 32 = .ok (.iload_n 2, 1) := by decide +kernel
theorem d_Mo_versions_33 : decode b_Mo_versions 33 = .ok (.iconst 1, 1) := by decide +kernel
theorem d_Mo_versions_34 : decode b_Mo_versions 34 = .ok (.iadd, 1) := by decide +kernel
theorem d_Mo_versions_35 : decode b_Mo_versions 35 = .ok (.goto 4, 3) := by decide +kernel
theorem d_Mo_versions_38 : decode b_Mo_versions 38 = .ok (.iload_n 2, 1) := by decide +kernel
theorem d_Mo_versions_39 : decode b_Mo_versions 39 = .ok (.istore_n 2, 1) := by decide +kernel
theorem d_Mo_versions_40 : decode b_Mo_versions 40 = .ok (.iinc 3 1, 3) := by decide +kernel
theorem d_Mo_versions_43 : decode b_Mo_versions 43 = .ok (.goto (-39), 3) := by decide +kernel
theorem d_Mo_versions_46 : decode b_Mo_versions 46 = .ok (.iload_n 2, 1) := by decide +kernel
theorem d_Mo_versions_47 : decode b_Mo_versions 47 = .ok (.ireturn, 1) := by decide +kernel
abbrev b_Mo_isVersion : ByteArray := prog_14_method_36_code
abbrev y_Mo_isVersion : MethodName := ⟨"RecordLakeModel", "isVersion", "(II)Z"⟩
abbrev w_Mo_isVersion : List Cond := Cond.code y_Mo_isVersion b_Mo_isVersion 3 (some .boolean) :: gW
theorem d_Mo_isVersion_0 : decode b_Mo_isVersion 0 = .ok (.iload_n 1, 1) := by decide +kernel
theorem d_Mo_isVersion_1 : decode b_Mo_isVersion 1 = .ok (.invokestatic 136, 3) := by decide +kernel
theorem d_Mo_isVersion_4 : decode b_Mo_isVersion 4 = .ok (.ifCond .eq 20, 3) := by decide +kernel
theorem d_Mo_isVersion_7 : decode b_Mo_isVersion 7 = .ok (.aload_n 0, 1) := by decide +kernel
theorem d_Mo_isVersion_8 : decode b_Mo_isVersion 8 = .ok (.iload_n 1, 1) := by decide +kernel
theorem d_Mo_isVersion_9 : decode b_Mo_isVersion 9 = .ok (.iload_n 2, 1) := by decide +kernel
theorem d_Mo_isVersion_10 : decode b_Mo_isVersion 10 = .ok (.invokevirtual 99, 3) := by decide +kernel
theorem d_Mo_isVersion_13 : decode b_Mo_isVersion 13 = .ok (.ifCond .lt 11, 3) := by decide +kernel
theorem d_Mo_isVersion_16 : decode b_Mo_isVersion 16 = .ok (.iload_n 2, 1) := by decide +kernel
theorem d_Mo_isVersion_17 : decode b_Mo_isVersion 17 = .ok (.ifCond .lt 7, 3) := by decide +kernel
theorem d_Mo_isVersion_20 : decode b_Mo_isVersion 20 = .ok (.iconst 1, 1) := by decide +kernel
theorem d_Mo_isVersion_21 : decode b_Mo_isVersion 21 = .ok (.goto 4, 3) := by decide +kernel
theorem d_Mo_isVersion_24 : decode b_Mo_isVersion 24 = .ok (.iconst 0, 1) := by decide +kernel
theorem d_Mo_isVersion_25 : decode b_Mo_isVersion 25 = .ok (.ireturn, 1) := by decide +kernel
abbrev b_Mo_look : ByteArray := prog_14_method_35_code
abbrev y_Mo_look : MethodName := ⟨"RecordLakeModel", "look", "(II)I"⟩
abbrev w_Mo_look : List Cond := Cond.code y_Mo_look b_Mo_look 3 (some .int) :: gW
theorem d_Mo_look_0 : decode b_Mo_look 0 = .ok (.aload_n 0, 1) := by decide +kernel
theorem d_Mo_look_1 : decode b_Mo_look 1 = .ok (.iload_n 1, 1) := by decide +kernel
theorem d_Mo_look_2 : decode b_Mo_look 2 = .ok (.invokestatic 136, 3) := by decide +kernel
theorem d_Mo_look_5 : decode b_Mo_look 5 = .ok (.ifCond .eq 19, 3) := by decide +kernel
theorem d_Mo_look_8 : decode b_Mo_look 8 = .ok (.aload_n 0, 1) := by decide +kernel
theorem d_Mo_look_9 : decode b_Mo_look 9 = .ok (.getfield 111, 3) := by decide +kernel
theorem d_Mo_look_12 : decode b_Mo_look 12 = .ok (.ifCond .ne 16, 3) := by decide +kernel
theorem d_Mo_look_15 : decode b_Mo_look 15 = .ok (.aload_n 0, 1) := by decide +kernel
theorem d_Mo_look_16 : decode b_Mo_look 16 = .ok (.iload_n 1, 1) := by decide +kernel
theorem d_Mo_look_17 : decode b_Mo_look 17 = .ok (.iload_n 2, 1) := by decide +kernel
theorem d_Mo_look_18 : decode b_Mo_look 18 = .ok (.invokevirtual 255, 3) := by decide +kernel
theorem d_Mo_look_21 : decode b_Mo_look 21 = .ok (.ifCond .ne 7, 3) := by decide +kernel
theorem d_Mo_look_24 : decode b_Mo_look 24 = .ok (.iconst 1, 1) := by decide +kernel
theorem d_Mo_look_25 : decode b_Mo_look 25 = .ok (.goto 4, 3) := by decide +kernel
theorem d_Mo_look_28 : decode b_Mo_look 28 = .ok (.iconst 0, 1) := by decide +kernel
theorem d_Mo_look_29 : decode b_Mo_look 29 = .ok (.iconst 0, 1) := by decide +kernel
theorem d_Mo_look_30 : decode b_Mo_look 30 = .ok (.invokevirtual 87, 3) := by decide +kernel
theorem d_Mo_look_33 : decode b_Mo_look 33 = .ok (.ifCond .eq 5, 3) := by decide +kernel
theorem d_Mo_look_36 : decode b_Mo_look 36 = .ok (.iconst 0, 1) := by decide +kernel
theorem d_Mo_look_37 : decode b_Mo_look 37 = .ok (.ireturn, 1) := by decide +kernel
theorem d_Mo_look_38 : decode b_Mo_look 38 = .ok (.aload_n 0, 1) := by decide +kernel
theorem d_Mo_look_39 : decode b_Mo_look 39 = .ok (.getfield 111, 3) := by decide +kernel
theorem d_Mo_look_42 : decode b_Mo_look 42 = .ok (.ifCond .eq 6, 3) := by decide +kernel
theorem d_Mo_look_45 : decode b_Mo_look 45 = .ok (.bipush (-33), 2) := by decide +kernel
theorem d_Mo_look_47 : decode b_Mo_look 47 = .ok (.ireturn, 1) := by decide +kernel
theorem d_Mo_look_48 : decode b_Mo_look 48 = .ok (.aload_n 0, 1) := by decide +kernel
theorem d_Mo_look_49 : decode b_Mo_look 49 = .ok (.aload_n 0, 1) := by decide +kernel
theorem d_Mo_look_50 : decode b_Mo_look 50 = .ok (.getfield 24, 3) := by decide +kernel
theorem d_Mo_look_53 : decode b_Mo_look 53 = .ok (.iload_n 1, 1) := by decide +kernel
theorem d_Mo_look_54 : decode b_Mo_look 54 = .ok (.iload_n 2, 1) := by decide +kernel
theorem d_Mo_look_55 : decode b_Mo_look 55 = .ok (.invokevirtual 142, 3) := by decide +kernel
theorem d_Mo_look_58 : decode b_Mo_look 58 = .ok (.aload_n 0, 1) := by decide +kernel
theorem d_Mo_look_59 : decode b_Mo_look 59 = .ok (.aload_n 0, 1) := by decide +kernel
theorem d_Mo_look_60 : decode b_Mo_look 60 = .ok (.getfield 24, 3) := by decide +kernel
theorem d_Mo_look_63 : decode b_Mo_look 63 = .ok (.iconst 0, 1) := by decide +kernel
theorem d_Mo_look_64 : decode b_Mo_look 64 = .ok (.invokevirtual 259, 3) := by decide +kernel
theorem d_Mo_look_67 : decode b_Mo_look 67 = .ok (.ireturn, 1) := by decide +kernel
abbrev b_Mo_load : ByteArray := prog_14_method_38_code
abbrev y_Mo_load : MethodName := ⟨"RecordLakeModel", "load", "(II)I"⟩
abbrev w_Mo_load : List Cond := Cond.code y_Mo_load b_Mo_load 5 (some .int) :: gW
theorem d_Mo_load_0 : decode b_Mo_load 0 = .ok (.aload_n 0, 1) := by decide +kernel
theorem d_Mo_load_1 : decode b_Mo_load 1 = .ok (.iload_n 1, 1) := by decide +kernel
theorem d_Mo_load_2 : decode b_Mo_load 2 = .ok (.invokestatic 136, 3) := by decide +kernel
theorem d_Mo_load_5 : decode b_Mo_load 5 = .ok (.ifCond .eq 19, 3) := by decide +kernel
theorem d_Mo_load_8 : decode b_Mo_load 8 = .ok (.aload_n 0, 1) := by decide +kernel
theorem d_Mo_load_9 : decode b_Mo_load 9 = .ok (.getfield 111, 3) := by decide +kernel
theorem d_Mo_load_12 : decode b_Mo_load 12 = .ok (.ifCond .ne 16, 3) := by decide +kernel
theorem d_Mo_load_15 : decode b_Mo_load 15 = .ok (.aload_n 0, 1) := by decide +kernel
theorem d_Mo_load_16 : decode b_Mo_load 16 = .ok (.iload_n 1, 1) := by decide +kernel
theorem d_Mo_load_17 : decode b_Mo_load 17 = .ok (.iload_n 2, 1) := by decide +kernel
theorem d_Mo_load_18 : decode b_Mo_load 18 = .ok (.invokevirtual 255, 3) := by decide +kernel
theorem d_Mo_load_21 : decode b_Mo_load 21 = .ok (.ifCond .ne 7, 3) := by decide +kernel
theorem d_Mo_load_24 : decode b_Mo_load 24 = .ok (.iconst 1, 1) := by decide +kernel
theorem d_Mo_load_25 : decode b_Mo_load 25 = .ok (.goto 4, 3) := by decide +kernel
theorem d_Mo_load_28 : decode b_Mo_load 28 = .ok (.iconst 0, 1) := by decide +kernel
theorem d_Mo_load_29 : decode b_Mo_load 29 = .ok (.iconst 0, 1) := by decide +kernel
theorem d_Mo_load_30 : decode b_Mo_load 30 = .ok (.invokevirtual 87, 3) := by decide +kernel
theorem d_Mo_load_33 : decode b_Mo_load 33 = .ok (.ifCond .eq 5, 3) := by decide +kernel
theorem d_Mo_load_36 : decode b_Mo_load 36 = .ok (.iconst 0, 1) := by decide +kernel
theorem d_Mo_load_37 : decode b_Mo_load 37 = .ok (.ireturn, 1) := by decide +kernel
theorem d_Mo_load_38 : decode b_Mo_load 38 = .ok (.aload_n 0, 1) := by decide +kernel
theorem d_Mo_load_39 : decode b_Mo_load 39 = .ok (.getfield 111, 3) := by decide +kernel
theorem d_Mo_load_42 : decode b_Mo_load 42 = .ok (.ifCond .eq 6, 3) := by decide +kernel
theorem d_Mo_load_45 : decode b_Mo_load 45 = .ok (.bipush (-33), 2) := by decide +kernel
theorem d_Mo_load_47 : decode b_Mo_load 47 = .ok (.ireturn, 1) := by decide +kernel
theorem d_Mo_load_48 : decode b_Mo_load 48 = .ok (.aload_n 0, 1) := by decide +kernel
theorem d_Mo_load_49 : decode b_Mo_load 49 = .ok (.aload_n 0, 1) := by decide +kernel
theorem d_Mo_load_50 : decode b_Mo_load 50 = .ok (.getfield 24, 3) := by decide +kernel
theorem d_Mo_load_53 : decode b_Mo_load 53 = .ok (.iload_n 1, 1) := by decide +kernel
theorem d_Mo_load_54 : decode b_Mo_load 54 = .ok (.iload_n 2, 1) := by decide +kernel
theorem d_Mo_load_55 : decode b_Mo_load 55 = .ok (.invokevirtual 142, 3) := by decide +kernel
theorem d_Mo_load_58 : decode b_Mo_load 58 = .ok (.aload_n 0, 1) := by decide +kernel
theorem d_Mo_load_59 : decode b_Mo_load 59 = .ok (.aload_n 0, 1) := by decide +kernel
theorem d_Mo_load_60 : decode b_Mo_load 60 = .ok (.getfield 24, 3) := by decide +kernel
theorem d_Mo_load_63 : decode b_Mo_load 63 = .ok (.iconst 1, 1) := by decide +kernel
theorem d_Mo_load_64 : decode b_Mo_load 64 = .ok (.invokevirtual 259, 3) := by decide +kernel
theorem d_Mo_load_67 : decode b_Mo_load 67 = .ok (.istore_n 3, 1) := by decide +kernel
theorem d_Mo_load_68 : decode b_Mo_load 68 = .ok (.iload_n 3, 1) := by decide +kernel
theorem d_Mo_load_69 : decode b_Mo_load 69 = .ok (.iconst 1, 1) := by decide +kernel
theorem d_Mo_load_70 : decode b_Mo_load 70 = .ok (.if_icmp .ge 14, 3) := by decide +kernel
theorem d_Mo_load_73 : decode b_Mo_load 73 = .ok (.iload_n 3, 1) := by decide +kernel
theorem d_Mo_load_74 : decode b_Mo_load 74 = .ok (.ifCond .ne 8, 3) := by decide +kernel
theorem d_Mo_load_77 : decode b_Mo_load 77 = .ok (.bipush (-34), 2) := by decide +kernel
theorem d_Mo_load_79 : decode b_Mo_load 79 = .ok (.goto 4, 3) := by decide +kernel
theorem d_Mo_load_82 : decode b_Mo_load 82 = .ok (.iload_n 3, 1) := by decide +kernel
theorem d_Mo_load_83 : decode b_Mo_load 83 = .ok (.ireturn, 1) := by decide +kernel
theorem d_Mo_load_84 : decode b_Mo_load 84 = .ok (.aload_n 0, 1) := by decide +kernel
theorem d_Mo_load_85 : decode b_Mo_load 85 = .ok (.iload_n 1, 1) := by decide +kernel
theorem d_Mo_load_86 : decode b_Mo_load 86 = .ok (.iload_n 2, 1) := by decide +kernel
theorem d_Mo_load_87 : decode b_Mo_load 87 = .ok (.aload_n 0, 1) := by decide +kernel
theorem d_Mo_load_88 : decode b_Mo_load 88 = .ok (.getfield 184, 3) := by decide +kernel
theorem d_Mo_load_91 : decode b_Mo_load 91 = .ok (.sipush 4096, 3) := by decide +kernel
theorem d_Mo_load_94 : decode b_Mo_load 94 = .ok (.if_icmp .le 9, 3) := by decide +kernel
theorem d_Mo_load_97 : decode b_Mo_load 97 = .ok (.sipush 4097, 3) := by decide +kernel
theorem d_Mo_load_100 : decode b_Mo_load 100 = .ok (.goto 11, 3) := by decide +kernel
theorem d_Mo_load_103 : decode b_Mo_load 103 = .ok (.iload_n 3, 1) := by decide +kernel
theorem d_Mo_load_104 : decode b_Mo_load 104 = .ok (.aload_n 0, 1) := by decide +kernel
theorem d_Mo_load_105 : decode b_Mo_load 105 = .ok (.getfield 184, 3) := by decide +kernel
theorem d_Mo_load_108 : decode b_Mo_load 108 = .ok (.invokestatic 263, 3) := by decide +kernel
theorem d_Mo_load_111 : decode b_Mo_load 111 = .ok (.iload_n 3, 1) := by decide +kernel
theorem d_Mo_load_112 : decode b_Mo_load 112 = .ok (.aload_n 0, 1) := by decide +kernel
theorem d_Mo_load_113 : decode b_Mo_load 113 = .ok (.getfield 184, 3) := by decide +kernel
theorem d_Mo_load_116 : decode b_Mo_load 116 = .ok (.sipush 4096, 3) := by decide +kernel
theorem d_Mo_load_119 : decode b_Mo_load 119 = .ok (.if_icmp .le 7, 3) := by decide +kernel
theorem d_Mo_load_122 : decode b_Mo_load 122 = .ok (.iconst 0, 1) := by decide +kernel
theorem d_Mo_load_123 : decode b_Mo_load 123 = .ok (.goto 7, 3) := by decide +kernel
theorem d_Mo_load_126 : decode b_Mo_load 126 = .ok (.aload_n 0, 1) := by decide +kernel
theorem d_Mo_load_127 : decode b_Mo_load 127 = .ok (.getfield 184, 3) := by decide +kernel
theorem d_Mo_load_130 : decode b_Mo_load 130 = .ok (.aload_n 0, 1) := by decide +kernel
theorem d_Mo_load_131 : decode b_Mo_load 131 = .ok (.getfield 62, 3) := by decide +kernel
theorem d_Mo_load_134 : decode b_Mo_load 134 = .ok (.aload_n 0, 1) := by decide +kernel
theorem d_Mo_load_135 : decode b_Mo_load 135 = .ok (.getfield 78, 3) := by decide +kernel
theorem d_Mo_load_138 : decode b_Mo_load 138 = .ok (.iconst 0, 1) := by decide +kernel
theorem d_Mo_load_139 : decode b_Mo_load 139 = .ok (.invokevirtual 153, 3) := by decide +kernel
theorem d_Mo_load_142 : decode b_Mo_load 142 = .ok (.istore 4, 2) := by decide +kernel
theorem d_Mo_load_144 : decode b_Mo_load 144 = .ok (.iload 4, 2) := by decide +kernel
theorem d_Mo_load_146 : decode b_Mo_load 146 = .ok (.bipush (-31), 2) := by decide +kernel
theorem d_Mo_load_148 : decode b_Mo_load 148 = .ok (.if_icmp .ne 6, 3) := by decide +kernel
theorem d_Mo_load_151 : decode b_Mo_load 151 = .ok (.bipush (-31), 2) := by decide +kernel
theorem d_Mo_load_153 : decode b_Mo_load 153 = .ok (.ireturn, 1) := by decide +kernel
theorem d_Mo_load_154 : decode b_Mo_load 154 = .ok (.aload_n 0, 1) := by decide +kernel
theorem d_Mo_load_155 : decode b_Mo_load 155 = .ok (.iconst 0, 1) := by decide +kernel
theorem d_Mo_load_156 : decode b_Mo_load 156 = .ok (.putfield 84, 3) := by decide +kernel
theorem d_Mo_load_159 : decode b_Mo_load 159 = .ok (.iload 4, 2) := by decide +kernel
theorem d_Mo_load_161 : decode b_Mo_load 161 = .ok (.ifCond .ge 8, 3) := by decide +kernel
theorem d_Mo_load_164 : decode b_Mo_load 164 = .ok (.iload 4, 2) := by decide +kernel
theorem d_Mo_load_166 : decode b_Mo_load 166 = .ok (.goto 4, 3) := by decide +kernel
theorem d_Mo_load_169 : decode b_Mo_load 169 = .ok (.iload_n 3, 1) := by decide +kernel
theorem d_Mo_load_170 : decode b_Mo_load 170 = .ok (.ireturn, 1) := by decide +kernel
abbrev b_Mo_print : ByteArray := prog_14_method_70_code
abbrev y_Mo_print : MethodName := ⟨"RecordLakeModel", "print", "(II)J"⟩
abbrev w_Mo_print : List Cond := Cond.code y_Mo_print b_Mo_print 3 (some .long) :: gW
theorem d_Mo_print_0 : decode b_Mo_print 0 = .ok (.aload_n 0, 1) := by decide +kernel
theorem d_Mo_print_1 : decode b_Mo_print 1 = .ok (.iload_n 1, 1) := by decide +kernel
theorem d_Mo_print_2 : decode b_Mo_print 2 = .ok (.invokestatic 136, 3) := by decide +kernel
theorem d_Mo_print_5 : decode b_Mo_print 5 = .ok (.ifCond .eq 19, 3) := by decide +kernel
theorem d_Mo_print_8 : decode b_Mo_print 8 = .ok (.aload_n 0, 1) := by decide +kernel
theorem d_Mo_print_9 : decode b_Mo_print 9 = .ok (.getfield 111, 3) := by decide +kernel
theorem d_Mo_print_12 : decode b_Mo_print 12 = .ok (.ifCond .ne 16, 3) := by decide +kernel
theorem d_Mo_print_15 : decode b_Mo_print 15 = .ok (.aload_n 0, 1) := by decide +kernel
theorem d_Mo_print_16 : decode b_Mo_print 16 = .ok (.iload_n 1, 1) := by decide +kernel
theorem d_Mo_print_17 : decode b_Mo_print 17 = .ok (.iload_n 2, 1) := by decide +kernel
theorem d_Mo_print_18 : decode b_Mo_print 18 = .ok (.invokevirtual 255, 3) := by decide +kernel
theorem d_Mo_print_21 : decode b_Mo_print 21 = .ok (.ifCond .ne 7, 3) := by decide +kernel
theorem d_Mo_print_24 : decode b_Mo_print 24 = .ok (.iconst 1, 1) := by decide +kernel
theorem d_Mo_print_25 : decode b_Mo_print 25 = .ok (.goto 4, 3) := by decide +kernel
theorem d_Mo_print_28 : decode b_Mo_print 28 = .ok (.iconst 0, 1) := by decide +kernel
theorem d_Mo_print_29 : decode b_Mo_print 29 = .ok (.iconst 0, 1) := by decide +kernel
theorem d_Mo_print_30 : decode b_Mo_print 30 = .ok (.invokevirtual 87, 3) := by decide +kernel
theorem d_Mo_print_33 : decode b_Mo_print 33 = .ok (.ifCond .ne 10, 3) := by decide +kernel
theorem d_Mo_print_36 : decode b_Mo_print 36 = .ok (.aload_n 0, 1) := by decide +kernel
theorem d_Mo_print_37 : decode b_Mo_print 37 = .ok (.getfield 111, 3) := by decide +kernel
theorem d_Mo_print_40 : decode b_Mo_print 40 = .ok (.ifCond .eq 5, 3) := by decide +kernel
theorem d_Mo_print_43 : decode b_Mo_print 43 = .ok (.lconst 0, 1) := by decide +kernel
theorem d_Mo_print_44 : decode b_Mo_print 44 = .ok (.lreturn, 1) := by decide +kernel
theorem d_Mo_print_45 : decode b_Mo_print 45 = .ok (.aload_n 0, 1) := by decide +kernel
theorem d_Mo_print_46 : decode b_Mo_print 46 = .ok (.iload_n 1, 1) := by decide +kernel
theorem d_Mo_print_47 : decode b_Mo_print 47 = .ok (.iload_n 2, 1) := by decide +kernel
theorem d_Mo_print_48 : decode b_Mo_print 48 = .ok (.invokevirtual 400, 3) := by decide +kernel
theorem d_Mo_print_51 : decode b_Mo_print 51 = .ok (.lreturn, 1) := by decide +kernel
abbrev b_Mo_read : ByteArray := prog_14_method_61_code
abbrev y_Mo_read : MethodName := ⟨"RecordLakeModel", "read", "(III)I"⟩
abbrev w_Mo_read : List Cond := Cond.code y_Mo_read b_Mo_read 9 (some .int) :: gW
theorem d_Mo_read_0 : decode b_Mo_read 0 = .ok (.iload_n 1, 1) := by decide +kernel
theorem d_Mo_read_1 : decode b_Mo_read 1 = .ok (.invokestatic 136, 3) := by decide +kernel
theorem d_Mo_read_4 : decode b_Mo_read 4 = .ok (.ifCond .eq 34, 3) := by decide +kernel
theorem d_Mo_read_7 : decode b_Mo_read 7 = .ok (.aload_n 0, 1) := by decide +kernel
theorem d_Mo_read_8 : decode b_Mo_read 8 = .ok (.getfield 111, 3) := by decide +kernel
theorem d_Mo_read_11 : decode b_Mo_read 11 = .ok (.ifCond .ne 31, 3) := by decide +kernel
theorem d_Mo_read_14 : decode b_Mo_read 14 = .ok (.aload_n 0, 1) := by decide +kernel
theorem d_Mo_read_15 : decode b_Mo_read 15 = .ok (.iload_n 1, 1) := by decide +kernel
theorem d_Mo_read_16 : decode b_Mo_read 16 = .ok (.iload_n 2, 1) := by decide +kernel
theorem d_Mo_read_17 : decode b_Mo_read 17 = .ok (.invokevirtual 255, 3) := by decide +kernel
theorem d_Mo_read_20 : decode b_Mo_read 20 = .ok (.ifCond .eq 18, 3) := by decide +kernel
theorem d_Mo_read_23 : decode b_Mo_read 23 = .ok (.iload_n 3, 1) := by decide +kernel
theorem d_Mo_read_24 : decode b_Mo_read 24 = .ok (.iconst 0, 1) := by decide +kernel
theorem d_Mo_read_25 : decode b_Mo_read 25 = .ok (.aload_n 0, 1) := by decide +kernel
theorem d_Mo_read_26 : decode b_Mo_read 26 = .ok (.iload_n 1, 1) := by decide +kernel
theorem d_Mo_read_27 : decode b_Mo_read 27 = .ok (.invokevirtual 375, 3) := by decide +kernel
theorem d_Mo_read_30 : decode b_Mo_read 30 = .ok (.iconst 1, 1) := by decide +kernel
theorem d_Mo_read_31 : decode b_Mo_read 31 = .ok (.isub, 1) := by decide +kernel
theorem d_Mo_read_32 : decode b_Mo_read 32 = .ok (.invokestatic 95, 3) := by decide +kernel
theorem d_Mo_read_35 : decode b_Mo_read 35 = .ok (.ifCond .ne 7, 3) := by decide +kernel
theorem d_Mo_read_38 : decode b_Mo_read 38 = .ok (.iconst 1, 1) := by decide +kernel
theorem d_Mo_read_39 : decode b_Mo_read 39 = .ok (.goto 4, 3) := by decide +kernel
theorem d_Mo_read_42 : decode b_Mo_read 42 = .ok (.iconst 0, 1) := by decide +kernel
theorem d_Mo_read_43 : decode b_Mo_read 43 = .ok (.istore 4, 2) := by decide +kernel
theorem d_Mo_read_45 : decode b_Mo_read 45 = .ok (.aload_n 0, 1) := by decide +kernel
theorem d_Mo_read_46 : decode b_Mo_read 46 = .ok (.iload 4, 2) := by decide +kernel
theorem d_Mo_read_48 : decode b_Mo_read 48 = .ok (.iconst 0, 1) := by decide +kernel
theorem d_Mo_read_49 : decode b_Mo_read 49 = .ok (.invokevirtual 87, 3) := by decide +kernel
theorem d_Mo_read_52 : decode b_Mo_read 52 = .ok (.ifCond .eq 5, 3) := by decide +kernel
theorem d_Mo_read_55 : decode b_Mo_read 55 = .ok (.iconst 0, 1) := by decide +kernel
theorem d_Mo_read_56 : decode b_Mo_read 56 = .ok (.ireturn, 1) := by decide +kernel
theorem d_Mo_read_57 : decode b_Mo_read 57 = .ok (.aload_n 0, 1) := by decide +kernel
theorem d_Mo_read_58 : decode b_Mo_read 58 = .ok (.getfield 111, 3) := by decide +kernel
theorem d_Mo_read_61 : decode b_Mo_read 61 = .ok (.ifCond .eq 6, 3) := by decide +kernel
theorem d_Mo_read_64 : decode b_Mo_read 64 = .ok (.bipush (-33), 2) := by decide +kernel
theorem d_Mo_read_66 : decode b_Mo_read 66 = .ok (.ireturn, 1) := by decide +kernel
theorem d_Mo_read_67 : decode b_Mo_read 67 = .ok (.iconst 0, 1) := by decide +kernel
theorem d_Mo_read_68 : decode b_Mo_read 68 = .ok (.istore 5, 2) := by decide +kernel
theorem d_Mo_read_70 : decode b_Mo_read 70 = .ok (.iload_n 3, 1) := by decide +kernel
theorem d_Mo_read_71 : decode b_Mo_read 71 = .ok (.istore 6, 2) := by decide +kernel
theorem d_Mo_read_73 : decode b_Mo_read 73 = .ok (.aload_n 0, 1) := by decide +kernel
theorem d_Mo_read_74 : decode b_Mo_read 74 = .ok (.getfield 39, 3) := by decide +kernel
theorem d_Mo_read_77 : decode b_Mo_read 77 = .ok (.iload 5, 2) := by decide +kernel
theorem d_Mo_read_79 : decode b_Mo_read 79 = .ok (.iaload, 1) := by decide +kernel
theorem d_Mo_read_80 : decode b_Mo_read 80 = .ok (.iload_n 1, 1) := by decide +kernel
theorem d_Mo_read_81 : decode b_Mo_read 81 = .ok (.if_icmp .ne 25, 3) := by decide +kernel
theorem d_Mo_read_84 : decode b_Mo_read 84 = .ok (.aload_n 0, 1) := by decide +kernel
theorem d_Mo_read_85 : decode b_Mo_read 85 = .ok (.getfield 52, 3) := by decide +kernel
theorem d_Mo_read_88 : decode b_Mo_read 88 = .ok (.iload 5, 2) := by decide +kernel
theorem d_Mo_read_90 : decode b_Mo_read 90 = .ok (.iaload, 1) := by decide +kernel
theorem d_Mo_read_91 : decode b_Mo_read 91 = .ok (.ifCond .lt 15, 3) := by decide +kernel
theorem d_Mo_read_94 : decode b_Mo_read 94 = .ok (.iload 6, 2) := by decide +kernel
theorem d_Mo_read_96 : decode b_Mo_read 96 = .ok (.aload_n 0, 1) := by decide +kernel
theorem d_Mo_read_97 : decode b_Mo_read 97 = .ok (.getfield 52, 3) := by decide +kernel
theorem d_Mo_read_100 : decode b_Mo_read 100 = .ok (.iload 5, 2) := by decide +kernel
theorem d_Mo_read_102 : decode b_Mo_read 102 = .ok (.iaload, 1) := by decide +kernel
theorem d_Mo_read_103 : decode b_Mo_read 103 = .ok (.if_icmp .lt 47, 3) := by decide +kernel
theorem d_Mo_read_106 : decode b_Mo_read 106 = .ok (.aload_n 0, 1) := by decide +kernel
theorem d_Mo_read_107 : decode b_Mo_read 107 = .ok (.getfield 39, 3) := by decide +kernel
theorem d_Mo_read_110 : decode b_Mo_read 110 = .ok (.iload 5, 2) := by decide +kernel
theorem d_Mo_read_112 : decode b_Mo_read 112 = .ok (.iaload, 1) := by decide +kernel
theorem d_Mo_read_113 : decode b_Mo_read 113 = .ok (.iload_n 1, 1) := by decide +kernel
theorem d_Mo_read_114 : decode b_Mo_read 114 = .ok (.if_icmp .ne 26, 3) := by decide +kernel
theorem d_Mo_read_117 : decode b_Mo_read 117 = .ok (.aload_n 0, 1) := by decide +kernel
theorem d_Mo_read_118 : decode b_Mo_read 118 = .ok (.getfield 52, 3) := by decide +kernel
theorem d_Mo_read_121 : decode b_Mo_read 121 = .ok (.iload 5, 2) := by decide +kernel
theorem d_Mo_read_123 : decode b_Mo_read 123 = .ok (.iaload, 1) := by decide +kernel
theorem d_Mo_read_124 : decode b_Mo_read 124 = .ok (.ifCond .lt 16, 3) := by decide +kernel
theorem d_Mo_read_127 : decode b_Mo_read 127 = .ok (.iload 6, 2) := by decide +kernel
theorem d_Mo_read_129 : decode b_Mo_read 129 = .ok (.aload_n 0, 1) := by decide +kernel
theorem d_Mo_read_130 : decode b_Mo_read 130 = .ok (.getfield 52, 3) := by decide +kernel
theorem d_Mo_read_133 : decode b_Mo_read 133 = .ok (.iload 5, 2) := by decide +kernel
theorem d_Mo_read_135 : decode b_Mo_read 135 = .ok (.iaload, 1) := by decide +kernel
theorem d_Mo_read_136 : decode b_Mo_read 136 = .ok (.isub, 1) := by decide +kernel
theorem d_Mo_read_137 : decode b_Mo_read 137 = .ok (.goto 5, 3) := by decide +kernel
theorem d_Mo_read_140 : decode b_Mo_read 140 = .ok (.iload 6, 2) := by decide +kernel
theorem d_Mo_read_142 : decode b_Mo_read 142 = .ok (.istore 6, 2) := by decide +kernel
theorem d_Mo_read_144 : decode b_Mo_read 144 = .ok (.iinc 5 1, 3) := by decide +kernel
theorem d_Mo_read_147 : decode b_Mo_read 147 = .ok (.goto (-74), 3) := by decide +kernel
theorem d_Mo_read_150 : decode b_Mo_read 150 = .ok (.aload_n 0, 1) := by decide +kernel
theorem d_Mo_read_151 : decode b_Mo_read 151 = .ok (.aload_n 0, 1) := by decide +kernel
theorem d_Mo_read_152 : decode b_Mo_read 152 = .ok (.getfield 24, 3) := by decide +kernel
theorem d_Mo_read_155 : decode b_Mo_read 155 = .ok (.iload_n 1, 1) := by decide +kernel
theorem d_Mo_read_156 : decode b_Mo_read 156 = .ok (.aload_n 0, 1) := by decide +kernel
theorem d_Mo_read_157 : decode b_Mo_read 157 = .ok (.getfield 43, 3) := by decide +kernel
theorem d_Mo_read_160 : decode b_Mo_read 160 = .ok (.iload 5, 2) := by decide +kernel
theorem d_Mo_read_162 : decode b_Mo_read 162 = .ok (.iaload, 1) := by decide +kernel
theorem d_Mo_read_163 : decode b_Mo_read 163 = .ok (.invokevirtual 142, 3) := by decide +kernel
theorem d_Mo_read_166 : decode b_Mo_read 166 = .ok (.aload_n 0, 1) := by decide +kernel
theorem d_Mo_read_167 : decode b_Mo_read 167 = .ok (.aload_n 0, 1) := by decide +kernel
theorem d_Mo_read_168 : decode b_Mo_read 168 = .ok (.getfield 27, 3) := by decide +kernel
theorem d_Mo_read_171 : decode b_Mo_read 171 = .ok (.iload_n 1, 1) := by decide +kernel
theorem d_Mo_read_172 : decode b_Mo_read 172 = .ok (.iload_n 2, 1) := by decide +kernel
theorem d_Mo_read_173 : decode b_Mo_read 173 = .ok (.invokevirtual 142, 3) := by decide +kernel
theorem d_Mo_read_176 : decode b_Mo_read 176 = .ok (.aload_n 0, 1) := by decide +kernel
theorem d_Mo_read_177 : decode b_Mo_read 177 = .ok (.sipush 256, 3) := by decide +kernel
theorem d_Mo_read_180 : decode b_Mo_read 180 = .ok (.aload_n 0, 1) := by decide +kernel
theorem d_Mo_read_181 : decode b_Mo_read 181 = .ok (.getfield 46, 3) := by decide +kernel
theorem d_Mo_read_184 : decode b_Mo_read 184 = .ok (.iload 5, 2) := by decide +kernel
theorem d_Mo_read_186 : decode b_Mo_read 186 = .ok (.iaload, 1) := by decide +kernel
theorem d_Mo_read_187 : decode b_Mo_read 187 = .ok (.imul, 1) := by decide +kernel
theorem d_Mo_read_188 : decode b_Mo_read 188 = .ok (.putfield 317, 3) := by decide +kernel
theorem d_Mo_read_191 : decode b_Mo_read 191 = .ok (.iconst 0, 1) := by decide +kernel
theorem d_Mo_read_192 : decode b_Mo_read 192 = .ok (.istore 7, 2) := by decide +kernel
theorem d_Mo_read_194 : decode b_Mo_read 194 = .ok (.iload 7, 2) := by decide +kernel
theorem d_Mo_read_196 : decode b_Mo_read 196 = .ok (.iload 6, 2) := by decide +kernel
theorem d_Mo_read_198 : decode b_Mo_read 198 = .ok (.if_icmp .ge 24, 3) := by decide +kernel
theorem d_Mo_read_201 : decode b_Mo_read 201 = .ok (.aload_n 0, 1) := by decide +kernel
theorem d_Mo_read_202 : decode b_Mo_read 202 = .ok (.aload_n 0, 1) := by decide +kernel
theorem d_Mo_read_203 : decode b_Mo_read 203 = .ok (.getfield 24, 3) := by decide +kernel
theorem d_Mo_read_206 : decode b_Mo_read 206 = .ok (.aload_n 0, 1) := by decide +kernel
theorem d_Mo_read_207 : decode b_Mo_read 207 = .ok (.getfield 24, 3) := by decide +kernel
theorem d_Mo_read_210 : decode b_Mo_read 210 = .ok (.getfield 252, 3) := by decide +kernel
theorem d_Mo_read_213 : decode b_Mo_read 213 = .ok (.invokevirtual 327, 3) := by decide +kernel
theorem d_Mo_read_216 : decode b_Mo_read 216 = .ok (.iinc 7 1, 3) := by decide +kernel
theorem d_Mo_read_219 : decode b_Mo_read 219 = .ok (.goto (-25), 3) := by decide +kernel
theorem d_Mo_read_222 : decode b_Mo_read 222 = .ok (.aload_n 0, 1) := by decide +kernel
theorem d_Mo_read_223 : decode b_Mo_read 223 = .ok (.iconst 0, 1) := by decide +kernel
theorem d_Mo_read_224 : decode b_Mo_read 224 = .ok (.putfield 184, 3) := by decide +kernel
theorem d_Mo_read_227 : decode b_Mo_read 227 = .ok (.aload_n 0, 1) := by decide +kernel
theorem d_Mo_read_228 : decode b_Mo_read 228 = .ok (.iconst 0, 1) := by decide +kernel
theorem d_Mo_read_229 : decode b_Mo_read 229 = .ok (.putfield 378, 3) := by decide +kernel
theorem d_Mo_read_232 : decode b_Mo_read 232 = .ok (.aload_n 0, 1) := by decide +kernel
theorem d_Mo_read_233 : decode b_Mo_read 233 = .ok (.sipush 4096, 3) := by decide +kernel
theorem d_Mo_read_236 : decode b_Mo_read 236 = .ok (.invokevirtual 381, 3) := by decide +kernel
theorem d_Mo_read_239 : decode b_Mo_read 239 = .ok (.istore 7, 2) := by decide +kernel
theorem d_Mo_read_241 : decode b_Mo_read 241 = .ok (.iload 7, 2) := by decide +kernel
theorem d_Mo_read_243 : decode b_Mo_read 243 = .ok (.ifCond .ge 6, 3) := by decide +kernel
theorem d_Mo_read_246 : decode b_Mo_read 246 = .ok (.iload 7, 2) := by decide +kernel
theorem d_Mo_read_248 : decode b_Mo_read 248 = .ok (.ireturn, 1) := by decide +kernel
theorem d_Mo_read_249 : decode b_Mo_read 249 = .ok (.aload_n 0, 1) := by decide +kernel
theorem d_Mo_read_250 : decode b_Mo_read 250 = .ok (.aload_n 0, 1) := by decide +kernel
theorem d_Mo_read_251 : decode b_Mo_read 251 = .ok (.getfield 184, 3) := by decide +kernel
theorem d_Mo_read_254 : decode b_Mo_read 254 = .ok (.putfield 378, 3) := by decide +kernel
theorem d_Mo_read_257 : decode b_Mo_read 257 = .ok (.iconst 0, 1) := by decide +kernel
theorem d_Mo_read_258 : decode b_Mo_read 258 = .ok (.istore 8, 2) := by decide +kernel
theorem d_Mo_read_260 : decode b_Mo_read 260 = .ok (.iload 8, 2) := by decide +kernel
theorem d_Mo_read_262 : decode b_Mo_read 262 = .ok (.aload_n 0, 1) := by decide +kernel
theorem d_Mo_read_263 : decode b_Mo_read 263 = .ok (.getfield 378, 3) := by decide +kernel
theorem d_Mo_read_266 : decode b_Mo_read 266 = .ok (.if_icmp .ge 23, 3) := by decide +kernel
theorem d_Mo_read_269 : decode b_Mo_read 269 = .ok (.aload_n 0, 1) := by decide +kernel
theorem d_Mo_read_270 : decode b_Mo_read 270 = .ok (.getfield 33, 3) := by decide +kernel
theorem d_Mo_read_273 : decode b_Mo_read 273 = .ok (.iload 8, 2) := by decide +kernel
theorem d_Mo_read_275 : decode b_Mo_read 275 = .ok (.aload_n 0, 1) := by decide +kernel
theorem d_Mo_read_276 : decode b_Mo_read 276 = .ok (.getfield 62, 3) := by decide +kernel
theorem d_Mo_read_279 : decode b_Mo_read 279 = .ok (.iload 8, 2) := by decide +kernel
theorem d_Mo_read_281 : decode b_Mo_read 281 = .ok (.baload, 1) := by decide +kernel
theorem d_Mo_read_282 : decode b_Mo_read 282 = .ok (.bastore, 1) := by decide +kernel
theorem d_Mo_read_283 : decode b_Mo_read 283 = .ok (.iinc 8 1, 3) := by decide +kernel
theorem d_Mo_read_286 : decode b_Mo_read 286 = .ok (.goto (-26), 3) := by decide +kernel
theorem d_Mo_read_289 : decode b_Mo_read 289 = .ok (.aload_n 0, 1) := by decide +kernel
theorem d_Mo_read_290 : decode b_Mo_read 290 = .ok (.getfield 378, 3) := by decide +kernel
theorem d_Mo_read_293 : decode b_Mo_read 293 = .ok (.ireturn, 1) := by decide +kernel
abbrev b_Mo_copy : ByteArray := prog_14_method_63_code
abbrev y_Mo_copy : MethodName := ⟨"RecordLakeModel", "copy", "(III)I"⟩
abbrev w_Mo_copy : List Cond := Cond.code y_Mo_copy b_Mo_copy 11 (some .int) :: gW
theorem d_Mo_copy_0 : decode b_Mo_copy 0 = .ok (.iload_n 1, 1) := by decide +kernel
theorem d_Mo_copy_1 : decode b_Mo_copy 1 = .ok (.invokestatic 136, 3) := by decide +kernel
theorem d_Mo_copy_4 : decode b_Mo_copy 4 = .ok (.ifCond .eq 26, 3) := by decide +kernel
theorem d_Mo_copy_7 : decode b_Mo_copy 7 = .ok (.iload_n 2, 1) := by decide +kernel
theorem d_Mo_copy_8 : decode b_Mo_copy 8 = .ok (.invokestatic 136, 3) := by decide +kernel
theorem d_Mo_copy_11 : decode b_Mo_copy 11 = .ok (.ifCond .eq 19, 3) := by decide +kernel
theorem d_Mo_copy_14 : decode b_Mo_copy 14 = .ok (.aload_n 0, 1) := by decide +kernel
theorem d_Mo_copy_15 : decode b_Mo_copy 15 = .ok (.getfield 111, 3) := by decide +kernel
theorem d_Mo_copy_18 : decode b_Mo_copy 18 = .ok (.ifCond .ne 16, 3) := by decide +kernel
theorem d_Mo_copy_21 : decode b_Mo_copy 21 = .ok (.aload_n 0, 1) := by decide +kernel
theorem d_Mo_copy_22 : decode b_Mo_copy 22 = .ok (.iload_n 2, 1) := by decide +kernel
theorem d_Mo_copy_23 : decode b_Mo_copy 23 = .ok (.iload_n 3, 1) := by decide +kernel
theorem d_Mo_copy_24 : decode b_Mo_copy 24 = .ok (.invokevirtual 255, 3) := by decide +kernel
theorem d_Mo_copy_27 : decode b_Mo_copy 27 = .ok (.ifCond .ne 7, 3) := by decide +kernel
theorem d_Mo_copy_30 : decode b_Mo_copy 30 = .ok (.iconst 1, 1) := by decide +kernel
theorem d_Mo_copy_31 : decode b_Mo_copy 31 = .ok (.goto 4, 3) := by decide +kernel
theorem d_Mo_copy_34 : decode b_Mo_copy 34 = .ok (.iconst 0, 1) := by decide +kernel
theorem d_Mo_copy_35 : decode b_Mo_copy 35 = .ok (.istore 4, 2) := by decide +kernel
theorem d_Mo_copy_37 : decode b_Mo_copy 37 = .ok (.aload_n 0, 1) := by decide +kernel
theorem d_Mo_copy_38 : decode b_Mo_copy 38 = .ok (.iload 4, 2) := by decide +kernel
theorem d_Mo_copy_40 : decode b_Mo_copy 40 = .ok (.iconst 0, 1) := by decide +kernel
theorem d_Mo_copy_41 : decode b_Mo_copy 41 = .ok (.invokevirtual 87, 3) := by decide +kernel
theorem d_Mo_copy_44 : decode b_Mo_copy 44 = .ok (.ifCond .eq 5, 3) := by decide +kernel
theorem d_Mo_copy_47 : decode b_Mo_copy 47 = .ok (.iconst 0, 1) := by decide +kernel
theorem d_Mo_copy_48 : decode b_Mo_copy 48 = .ok (.ireturn, 1) := by decide +kernel
theorem d_Mo_copy_49 : decode b_Mo_copy 49 = .ok (.aload_n 0, 1) := by decide +kernel
theorem d_Mo_copy_50 : decode b_Mo_copy 50 = .ok (.getfield 111, 3) := by decide +kernel
theorem d_Mo_copy_53 : decode b_Mo_copy 53 = .ok (.ifCond .eq 6, 3) := by decide +kernel
theorem d_Mo_copy_56 : decode b_Mo_copy 56 = .ok (.bipush (-33), 2) := by decide +kernel
theorem d_Mo_copy_58 : decode b_Mo_copy 58 = .ok (.ireturn, 1) := by decide +kernel
theorem d_Mo_copy_59 : decode b_Mo_copy 59 = .ok (.aload_n 0, 1) := by decide +kernel
theorem d_Mo_copy_60 : decode b_Mo_copy 60 = .ok (.iload_n 1, 1) := by decide +kernel
theorem d_Mo_copy_61 : decode b_Mo_copy 61 = .ok (.invokevirtual 375, 3) := by decide +kernel
theorem d_Mo_copy_64 : decode b_Mo_copy 64 = .ok (.istore 5, 2) := by decide +kernel
theorem d_Mo_copy_66 : decode b_Mo_copy 66 = .ok (.iload 5, 2) := by decide +kernel
theorem d_Mo_copy_68 : decode b_Mo_copy 68 = .ok (.ifCond .ne 6, 3) := by decide +kernel
theorem d_Mo_copy_71 : decode b_Mo_copy 71 = .ok (.bipush (-34), 2) := by decide +kernel
theorem d_Mo_copy_73 : decode b_Mo_copy 73 = .ok (.ireturn, 1) := by decide +kernel
theorem d_Mo_copy_74 : decode b_Mo_copy 74 = .ok (.aload_n 0, 1) := by decide +kernel
theorem d_Mo_copy_75 : decode b_Mo_copy 75 = .ok (.aload_n 0, 1) := by decide +kernel
theorem d_Mo_copy_76 : decode b_Mo_copy 76 = .ok (.getfield 27, 3) := by decide +kernel
theorem d_Mo_copy_79 : decode b_Mo_copy 79 = .ok (.iload_n 2, 1) := by decide +kernel
theorem d_Mo_copy_80 : decode b_Mo_copy 80 = .ok (.iload_n 3, 1) := by decide +kernel
theorem d_Mo_copy_81 : decode b_Mo_copy 81 = .ok (.invokevirtual 142, 3) := by decide +kernel
theorem d_Mo_copy_84 : decode b_Mo_copy 84 = .ok (.iconst 0, 1) := by decide +kernel
theorem d_Mo_copy_85 : decode b_Mo_copy 85 = .ok (.istore 6, 2) := by decide +kernel
theorem d_Mo_copy_87 : decode b_Mo_copy 87 = .ok (.iconst 0, 1) := by decide +kernel
theorem d_Mo_copy_88 : decode b_Mo_copy 88 = .ok (.istore 7, 2) := by decide +kernel
theorem d_Mo_copy_90 : decode b_Mo_copy 90 = .ok (.iload 7, 2) := by decide +kernel
theorem d_Mo_copy_92 : decode b_Mo_copy 92 = .ok (.aload_n 0, 1) := by decide +kernel
theorem d_Mo_copy_93 : decode b_Mo_copy 93 = .ok (.getfield 78, 3) := by decide +kernel
theorem d_Mo_copy_96 : decode b_Mo_copy 96 = .ok (.if_icmp .ge 159, 3) := by decide +kernel
theorem d_Mo_copy_99 : decode b_Mo_copy 99 = .ok (.aload_n 0, 1) := by decide +kernel
theorem d_Mo_copy_100 : decode b_Mo_copy 100 = .ok (.getfield 39, 3) := by decide +kernel
theorem d_Mo_copy_103 : decode b_Mo_copy 103 = .ok (.iload 7, 2) := by decide +kernel
theorem d_Mo_copy_105 : decode b_Mo_copy 105 = .ok (.iaload, 1) := by decide +kernel
theorem d_Mo_copy_106 : decode b_Mo_copy 106 = .ok (.iload_n 1, 1) := by decide +kernel
theorem d_Mo_copy_107 : decode b_Mo_copy 107 = .ok (.if_icmp .ne 142, 3) := by decide +kernel
theorem d_Mo_copy_110 : decode b_Mo_copy 110 = .ok (.aload_n 0, 1) := by decide +kernel
theorem d_Mo_copy_111 : decode b_Mo_copy 111 = .ok (.getfield 52, 3) := by decide +kernel
theorem d_Mo_copy_114 : decode b_Mo_copy 114 = .ok (.iload 7, 2) := by decide +kernel
theorem d_Mo_copy_116 : decode b_Mo_copy 116 = .ok (.iaload, 1) := by decide +kernel
theorem d_Mo_copy_117 : decode b_Mo_copy 117 = .ok (.ifCond .lt 132, 3) := by decide +kernel
theorem d_Mo_copy_120 : decode b_Mo_copy 120 = .ok (.aload_n 0, 1) := by decide +kernel
theorem d_Mo_copy_121 : decode b_Mo_copy 121 = .ok (.aload_n 0, 1) := by decide +kernel
theorem d_Mo_copy_122 : decode b_Mo_copy 122 = .ok (.getfield 24, 3) := by decide +kernel
theorem d_Mo_copy_125 : decode b_Mo_copy 125 = .ok (.iload_n 1, 1) := by decide +kernel
theorem d_Mo_copy_126 : decode b_Mo_copy 126 = .ok (.aload_n 0, 1) := by decide +kernel
theorem d_Mo_copy_127 : decode b_Mo_copy 127 = .ok (.getfield 43, 3) := by decide +kernel
theorem d_Mo_copy_130 : decode b_Mo_copy 130 = .ok (.iload 7, 2) := by decide +kernel
theorem d_Mo_copy_132 : decode b_Mo_copy 132 = .ok (.iaload, 1) := by decide +kernel
theorem d_Mo_copy_133 : decode b_Mo_copy 133 = .ok (.invokevirtual 142, 3) := by decide +kernel
theorem d_Mo_copy_136 : decode b_Mo_copy 136 = .ok (.aload_n 0, 1) := by decide +kernel
theorem d_Mo_copy_137 : decode b_Mo_copy 137 = .ok (.sipush 256, 3) := by decide +kernel
theorem d_Mo_copy_140 : decode b_Mo_copy 140 = .ok (.aload_n 0, 1) := by decide +kernel
theorem d_Mo_copy_141 : decode b_Mo_copy 141 = .ok (.getfield 46, 3) := by decide +kernel
theorem d_Mo_copy_144 : decode b_Mo_copy 144 = .ok (.iload 7, 2) := by decide +kernel
theorem d_Mo_copy_146 : decode b_Mo_copy 146 = .ok (.iaload, 1) := by decide +kernel
theorem d_Mo_copy_147 : decode b_Mo_copy 147 = .ok (.imul, 1) := by decide +kernel
theorem d_Mo_copy_148 : decode b_Mo_copy 148 = .ok (.putfield 317, 3) := by decide +kernel
theorem d_Mo_copy_151 : decode b_Mo_copy 151 = .ok (.iconst 0, 1) := by decide +kernel
theorem d_Mo_copy_152 : decode b_Mo_copy 152 = .ok (.istore 8, 2) := by decide +kernel
theorem d_Mo_copy_154 : decode b_Mo_copy 154 = .ok (.iload 8, 2) := by decide +kernel
theorem d_Mo_copy_156 : decode b_Mo_copy 156 = .ok (.aload_n 0, 1) := by decide +kernel
theorem d_Mo_copy_157 : decode b_Mo_copy 157 = .ok (.getfield 52, 3) := by decide +kernel
theorem d_Mo_copy_160 : decode b_Mo_copy 160 = .ok (.iload 7, 2) := by decide +kernel
theorem d_Mo_copy_162 : decode b_Mo_copy 162 = .ok (.iaload, 1) := by decide +kernel
theorem d_Mo_copy_163 : decode b_Mo_copy 163 = .ok (.if_icmp .ge 86, 3) := by decide +kernel
theorem d_Mo_copy_166 : decode b_Mo_copy 166 = .ok (.aload_n 0, 1) := by decide +kernel
theorem d_Mo_copy_167 : decode b_Mo_copy 167 = .ok (.iconst 0, 1) := by decide +kernel
theorem d_Mo_copy_168 : decode b_Mo_copy 168 = .ok (.putfield 184, 3) := by decide +kernel
theorem d_Mo_copy_171 : decode b_Mo_copy 171 = .ok (.aload_n 0, 1) := by decide +kernel
theorem d_Mo_copy_172 : decode b_Mo_copy 172 = .ok (.sipush 4096, 3) := by decide +kernel
theorem d_Mo_copy_175 : decode b_Mo_copy 175 = .ok (.invokevirtual 381, 3) := by decide +kernel
theorem d_Mo_copy_178 : decode b_Mo_copy 178 = .ok (.istore 9, 2) := by decide +kernel
theorem d_Mo_copy_180 : decode b_Mo_copy 180 = .ok (.iload 9, 2) := by decide +kernel
theorem d_Mo_copy_182 : decode b_Mo_copy 182 = .ok (.ifCond .ge 6, 3) := by decide +kernel
theorem d_Mo_copy_185 : decode b_Mo_copy 185 = .ok (.iload 9, 2) := by decide +kernel
theorem d_Mo_copy_187 : decode b_Mo_copy 187 = .ok (.ireturn, 1) := by decide +kernel
theorem d_Mo_copy_188 : decode b_Mo_copy 188 = .ok (.iconst 0, 1) := by decide +kernel
theorem d_Mo_copy_189 : decode b_Mo_copy 189 = .ok (.istore 10, 2) := by decide +kernel
theorem d_Mo_copy_191 : decode b_Mo_copy 191 = .ok (.iload 10, 2) := by decide +kernel
theorem d_Mo_copy_193 : decode b_Mo_copy 193 = .ok (.aload_n 0, 1) := by decide +kernel
theorem d_Mo_copy_194 : decode b_Mo_copy 194 = .ok (.getfield 184, 3) := by decide +kernel
theorem d_Mo_copy_197 : decode b_Mo_copy 197 = .ok (.if_icmp .ge 37, 3) := by decide +kernel
theorem d_Mo_copy_200 : decode b_Mo_copy 200 = .ok (.iload 6, 2) := by decide +kernel
theorem d_Mo_copy_202 : decode b_Mo_copy 202 = .ok (.iload 10, 2) := by decide +kernel
theorem d_Mo_copy_204 : decode b_Mo_copy 204 = .ok (.iadd, 1) := by decide +kernel
theorem d_Mo_copy_205 : decode b_Mo_copy 205 = .ok (.sipush 4200, 3) := by decide +kernel
theorem d_Mo_copy_208 : decode b_Mo_copy 208 = .ok (.if_icmp .ge 26, 3) := by decide +kernel
theorem d_Mo_copy_211 : decode b_Mo_copy 211 = .ok (.aload_n 0, 1) := by decide +kernel
theorem d_Mo_copy_212 : decode b_Mo_copy 212 = .ok (.getfield 72, 3) := by decide +kernel
theorem d_Mo_copy_215 : decode b_Mo_copy 215 = .ok (.iload 6, 2) := by decide +kernel
theorem d_Mo_copy_217 : decode b_Mo_copy 217 = .ok (.iload 10, 2) := by decide +kernel
theorem d_Mo_copy_219 : decode b_Mo_copy 219 = .ok (.iadd, 1) := by decide +kernel
theorem d_Mo_copy_220 : decode b_Mo_copy 220 = .ok (.aload_n 0, 1) := by decide +kernel
theorem d_Mo_copy_221 : decode b_Mo_copy 221 = .ok (.getfield 62, 3) := by decide +kernel
theorem d_Mo_copy_224 : decode b_Mo_copy 224 = .ok (.iload 10, 2) := by decide +kernel
theorem d_Mo_copy_226 : decode b_Mo_copy 226 = .ok (.baload, 1) := by decide +kernel
theorem d_Mo_copy_227 : decode b_Mo_copy 227 = .ok (.bastore, 1) := by decide +kernel
theorem d_Mo_copy_228 : decode b_Mo_copy 228 = .ok (.iinc 10 1, 3) := by decide +kernel
theorem d_Mo_copy_231 : decode b_Mo_copy 231 = .ok (.goto (-40), 3) := by decide +kernel
theorem d_Mo_copy_234 : decode b_Mo_copy 234 = .ok (.iload 6, 2) := by decide +kernel
theorem d_Mo_copy_236 : decode b_Mo_copy 236 = .ok (.aload_n 0, 1) := by decide +kernel
theorem d_Mo_copy_237 : decode b_Mo_copy 237 = .ok (.getfield 184, 3) := by decide +kernel
theorem d_Mo_copy_240 : decode b_Mo_copy 240 = .ok (.iadd, 1) := by decide +kernel
theorem d_Mo_copy_241 : decode b_Mo_copy 241 = .ok (.istore 6, 2) := by decide +kernel
theorem d_Mo_copy_243 : decode b_Mo_copy 243 = .ok (.iinc 8 1, 3) := by decide +kernel
theorem d_Mo_copy_246 : decode b_Mo_copy 246 = .ok (.goto (-92), 3) := by decide +kernel
theorem d_Mo_copy_249 : decode b_Mo_copy 249 = .ok (.iinc 7 1, 3) := by decide +kernel
theorem d_Mo_copy_252 : decode b_Mo_copy 252 = .ok (.goto (-162), 3) := by decide +kernel
theorem d_Mo_copy_255 : decode b_Mo_copy 255 = .ok (.iload 6, 2) := by decide +kernel
theorem d_Mo_copy_257 : decode b_Mo_copy 257 = .ok (.ifCond .ne 6, 3) := by decide +kernel
theorem d_Mo_copy_260 : decode b_Mo_copy 260 = .ok (.bipush (-34), 2) := by decide +kernel
theorem d_Mo_copy_262 : decode b_Mo_copy 262 = .ok (.ireturn, 1) := by decide +kernel
theorem d_Mo_copy_263 : decode b_Mo_copy 263 = .ok (.iload 6, 2) := by decide +kernel
theorem d_Mo_copy_265 : decode b_Mo_copy 265 = .ok (.sipush 4096, 3) := by decide +kernel
theorem d_Mo_copy_268 : decode b_Mo_copy 268 = .ok (.if_icmp .gt 15, 3) := by decide +kernel
theorem d_Mo_copy_271 : decode b_Mo_copy 271 = .ok (.aload_n 0, 1) := by decide +kernel
theorem d_Mo_copy_272 : decode b_Mo_copy 272 = .ok (.iload 6, 2) := by decide +kernel
theorem d_Mo_copy_274 : decode b_Mo_copy 274 = .ok (.invokevirtual 384, 3) := by decide +kernel
theorem d_Mo_copy_277 : decode b_Mo_copy 277 = .ok (.ifCond .eq 6, 3) := by decide +kernel
theorem d_Mo_copy_280 : decode b_Mo_copy 280 = .ok (.bipush (-31), 2) := by decide +kernel
theorem d_Mo_copy_282 : decode b_Mo_copy 282 = .ok (.ireturn, 1) := by decide +kernel
theorem d_Mo_copy_283 : decode b_Mo_copy 283 = .ok (.aload_n 0, 1) := by decide +kernel
theorem d_Mo_copy_284 : decode b_Mo_copy 284 = .ok (.iload_n 2, 1) := by decide +kernel
theorem d_Mo_copy_285 : decode b_Mo_copy 285 = .ok (.iload_n 3, 1) := by decide +kernel
theorem d_Mo_copy_286 : decode b_Mo_copy 286 = .ok (.iload 6, 2) := by decide +kernel
theorem d_Mo_copy_288 : decode b_Mo_copy 288 = .ok (.sipush 4096, 3) := by decide +kernel
theorem d_Mo_copy_291 : decode b_Mo_copy 291 = .ok (.if_icmp .le 9, 3) := by decide +kernel
theorem d_Mo_copy_294 : decode b_Mo_copy 294 = .ok (.sipush 4097, 3) := by decide +kernel
theorem d_Mo_copy_297 : decode b_Mo_copy 297 = .ok (.goto 10, 3) := by decide +kernel
theorem d_Mo_copy_300 : decode b_Mo_copy 300 = .ok (.iload 5, 2) := by decide +kernel
theorem d_Mo_copy_302 : decode b_Mo_copy 302 = .ok (.iload 6, 2) := by decide +kernel
theorem d_Mo_copy_304 : decode b_Mo_copy 304 = .ok (.invokestatic 263, 3) := by decide +kernel
theorem d_Mo_copy_307 : decode b_Mo_copy 307 = .ok (.iload 5, 2) := by decide +kernel
theorem d_Mo_copy_309 : decode b_Mo_copy 309 = .ok (.iload 6, 2) := by decide +kernel
theorem d_Mo_copy_311 : decode b_Mo_copy 311 = .ok (.sipush 4096, 3) := by decide +kernel
theorem d_Mo_copy_314 : decode b_Mo_copy 314 = .ok (.if_icmp .le 7, 3) := by decide +kernel
theorem d_Mo_copy_317 : decode b_Mo_copy 317 = .ok (.iconst 0, 1) := by decide +kernel
theorem d_Mo_copy_318 : decode b_Mo_copy 318 = .ok (.goto 5, 3) := by decide +kernel
theorem d_Mo_copy_321 : decode b_Mo_copy 321 = .ok (.iload 6, 2) := by decide +kernel
theorem d_Mo_copy_323 : decode b_Mo_copy 323 = .ok (.aload_n 0, 1) := by decide +kernel
theorem d_Mo_copy_324 : decode b_Mo_copy 324 = .ok (.getfield 72, 3) := by decide +kernel
theorem d_Mo_copy_327 : decode b_Mo_copy 327 = .ok (.aload_n 0, 1) := by decide +kernel
theorem d_Mo_copy_328 : decode b_Mo_copy 328 = .ok (.getfield 78, 3) := by decide +kernel
theorem d_Mo_copy_331 : decode b_Mo_copy 331 = .ok (.iconst 0, 1) := by decide +kernel
theorem d_Mo_copy_332 : decode b_Mo_copy 332 = .ok (.invokevirtual 153, 3) := by decide +kernel
theorem d_Mo_copy_335 : decode b_Mo_copy 335 = .ok (.istore 7, 2) := by decide +kernel
theorem d_Mo_copy_337 : decode b_Mo_copy 337 = .ok (.iload 7, 2) := by decide +kernel
theorem d_Mo_copy_339 : decode b_Mo_copy 339 = .ok (.ifCond .ge 8, 3) := by decide +kernel
theorem d_Mo_copy_342 : decode b_Mo_copy 342 = .ok (.iload 7, 2) := by decide +kernel
theorem d_Mo_copy_344 : decode b_Mo_copy 344 = .ok (.goto 5, 3) := by decide +kernel
theorem d_Mo_copy_347 : decode b_Mo_copy 347 = .ok (.iload 5, 2) := by decide +kernel
theorem d_Mo_copy_349 : decode b_Mo_copy 349 = .ok (.ireturn, 1) := by decide +kernel
abbrev b_Mo_fits : ByteArray := prog_14_method_47_code
abbrev y_Mo_fits : MethodName := ⟨"RecordLakeModel", "fits", "(IIII)Z"⟩
abbrev w_Mo_fits : List Cond := Cond.code y_Mo_fits b_Mo_fits 6 (some .boolean) :: gW
theorem d_Mo_fits_0 : decode b_Mo_fits 0 = .ok (.iload_n 1, 1) := by decide +kernel
theorem d_Mo_fits_1 : decode b_Mo_fits 1 = .ok (.invokestatic 136, 3) := by decide +kernel
theorem d_Mo_fits_4 : decode b_Mo_fits 4 = .ok (.ifCond .eq 10, 3) := by decide +kernel
theorem d_Mo_fits_7 : decode b_Mo_fits 7 = .ok (.iload_n 3, 1) := by decide +kernel
theorem d_Mo_fits_8 : decode b_Mo_fits 8 = .ok (.invokestatic 136, 3) := by decide +kernel
theorem d_Mo_fits_11 : decode b_Mo_fits 11 = .ok (.ifCond .ne 7, 3) := by decide +kernel
theorem d_Mo_fits_14 : decode b_Mo_fits 14 = .ok (.iconst 1, 1) := by decide +kernel
theorem d_Mo_fits_15 : decode b_Mo_fits 15 = .ok (.goto 4, 3) := by decide +kernel
theorem d_Mo_fits_18 : decode b_Mo_fits 18 = .ok (.iconst 0, 1) := by decide +kernel
theorem d_Mo_fits_19 : decode b_Mo_fits 19 = .ok (.istore 5, 2) := by decide +kernel
theorem d_Mo_fits_21 : decode b_Mo_fits 21 = .ok (.iload 5, 2) := by decide +kernel
theorem d_Mo_fits_23 : decode b_Mo_fits 23 = .ok (.ifCond .ne 29, 3) := by decide +kernel
theorem d_Mo_fits_26 : decode b_Mo_fits 26 = .ok (.aload_n 0, 1) := by decide +kernel
theorem d_Mo_fits_27 : decode b_Mo_fits 27 = .ok (.getfield 111, 3) := by decide +kernel
theorem d_Mo_fits_30 : decode b_Mo_fits 30 = .ok (.ifCond .ne 26, 3) := by decide +kernel
theorem d_Mo_fits_33 : decode b_Mo_fits 33 = .ok (.aload_n 0, 1) := by decide +kernel
theorem d_Mo_fits_34 : decode b_Mo_fits 34 = .ok (.iload_n 1, 1) := by decide +kernel
theorem d_Mo_fits_35 : decode b_Mo_fits 35 = .ok (.iload_n 2, 1) := by decide +kernel
theorem d_Mo_fits_36 : decode b_Mo_fits 36 = .ok (.invokevirtual 255, 3) := by decide +kernel
theorem d_Mo_fits_39 : decode b_Mo_fits 39 = .ok (.ifCond .eq 13, 3) := by decide +kernel
theorem d_Mo_fits_42 : decode b_Mo_fits 42 = .ok (.aload_n 0, 1) := by decide +kernel
theorem d_Mo_fits_43 : decode b_Mo_fits 43 = .ok (.iload_n 3, 1) := by decide +kernel
theorem d_Mo_fits_44 : decode b_Mo_fits 44 = .ok (.iload 4, 2) := by decide +kernel
theorem d_Mo_fits_46 : decode b_Mo_fits 46 = .ok (.invokevirtual 255, 3) := by decide +kernel
theorem d_Mo_fits_49 : decode b_Mo_fits 49 = .ok (.ifCond .ne 7, 3) := by decide +kernel
theorem d_Mo_fits_52 : decode b_Mo_fits 52 = .ok (.iconst 1, 1) := by decide +kernel
theorem d_Mo_fits_53 : decode b_Mo_fits 53 = .ok (.goto 4, 3) := by decide +kernel
theorem d_Mo_fits_56 : decode b_Mo_fits 56 = .ok (.iconst 0, 1) := by decide +kernel
theorem d_Mo_fits_57 : decode b_Mo_fits 57 = .ok (.istore 5, 2) := by decide +kernel
theorem d_Mo_fits_59 : decode b_Mo_fits 59 = .ok (.aload_n 0, 1) := by decide +kernel
theorem d_Mo_fits_60 : decode b_Mo_fits 60 = .ok (.iload 5, 2) := by decide +kernel
theorem d_Mo_fits_62 : decode b_Mo_fits 62 = .ok (.iconst 0, 1) := by decide +kernel
theorem d_Mo_fits_63 : decode b_Mo_fits 63 = .ok (.invokevirtual 87, 3) := by decide +kernel
theorem d_Mo_fits_66 : decode b_Mo_fits 66 = .ok (.ifCond .ne 10, 3) := by decide +kernel
theorem d_Mo_fits_69 : decode b_Mo_fits 69 = .ok (.aload_n 0, 1) := by decide +kernel
theorem d_Mo_fits_70 : decode b_Mo_fits 70 = .ok (.getfield 111, 3) := by decide +kernel
theorem d_Mo_fits_73 : decode b_Mo_fits 73 = .ok (.ifCond .eq 5, 3) := by decide +kernel
theorem d_Mo_fits_76 : decode b_Mo_fits 76 = .ok (.iconst 0, 1) := by decide +kernel
theorem d_Mo_fits_77 : decode b_Mo_fits 77 = .ok (.ireturn, 1) := by decide +kernel
theorem d_Mo_fits_78 : decode b_Mo_fits 78 = .ok (.aload_n 0, 1) := by decide +kernel
theorem d_Mo_fits_79 : decode b_Mo_fits 79 = .ok (.aload_n 0, 1) := by decide +kernel
theorem d_Mo_fits_80 : decode b_Mo_fits 80 = .ok (.getfield 24, 3) := by decide +kernel
theorem d_Mo_fits_83 : decode b_Mo_fits 83 = .ok (.iload_n 1, 1) := by decide +kernel
theorem d_Mo_fits_84 : decode b_Mo_fits 84 = .ok (.iload_n 2, 1) := by decide +kernel
theorem d_Mo_fits_85 : decode b_Mo_fits 85 = .ok (.invokevirtual 142, 3) := by decide +kernel
theorem d_Mo_fits_88 : decode b_Mo_fits 88 = .ok (.aload_n 0, 1) := by decide +kernel
theorem d_Mo_fits_89 : decode b_Mo_fits 89 = .ok (.aload_n 0, 1) := by decide +kernel
theorem d_Mo_fits_90 : decode b_Mo_fits 90 = .ok (.getfield 27, 3) := by decide +kernel
theorem d_Mo_fits_93 : decode b_Mo_fits 93 = .ok (.iload_n 3, 1) := by decide +kernel
theorem d_Mo_fits_94 : decode b_Mo_fits 94 = .ok (.iload 4, 2) := by decide +kernel
theorem d_Mo_fits_96 : decode b_Mo_fits 96 = .ok (.invokevirtual 142, 3) := by decide +kernel
theorem d_Mo_fits_99 : decode b_Mo_fits 99 = .ok (.aload_n 0, 1) := by decide +kernel
theorem d_Mo_fits_100 : decode b_Mo_fits 100 = .ok (.aload_n 0, 1) := by decide +kernel
theorem d_Mo_fits_101 : decode b_Mo_fits 101 = .ok (.getfield 24, 3) := by decide +kernel
theorem d_Mo_fits_104 : decode b_Mo_fits 104 = .ok (.aload_n 0, 1) := by decide +kernel
theorem d_Mo_fits_105 : decode b_Mo_fits 105 = .ok (.getfield 27, 3) := by decide +kernel
theorem d_Mo_fits_108 : decode b_Mo_fits 108 = .ok (.invokevirtual 146, 3) := by decide +kernel
theorem d_Mo_fits_111 : decode b_Mo_fits 111 = .ok (.ireturn, 1) := by decide +kernel
