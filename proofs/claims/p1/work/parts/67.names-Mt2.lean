/-! names: methods, their instructions, words -/
theorem mw_630 : Cond.instanceMethod ⟨"java/lang/String", "length", "()I"⟩ ∈ gW := gw_of (List.mem_of_getElem? (i := 630) (by decide +kernel)) (by decide +kernel)
theorem mw_631 : Cond.selects "java/lang/String" ⟨"java/lang/String", "length", "()I"⟩ ⟨"java/lang/String", "length", "()I"⟩ ∈ gW := gw_of (List.mem_of_getElem? (i := 631) (by decide +kernel)) (by decide +kernel)
theorem mw_640 : Cond.instanceMethod ⟨"java/lang/String", "charAt", "(I)C"⟩ ∈ gW := gw_of (List.mem_of_getElem? (i := 640) (by decide +kernel)) (by decide +kernel)
theorem mw_641 : Cond.selects "java/lang/String" ⟨"java/lang/String", "charAt", "(I)C"⟩ ⟨"java/lang/String", "charAt", "(I)C"⟩ ∈ gW := gw_of (List.mem_of_getElem? (i := 641) (by decide +kernel)) (by decide +kernel)
theorem mw_1592 : Cond.fieldLink "RecordLakeModel$Text" 78 "RecordLakeModel$Text" "fault" "I" ∈ gW := gw_of (List.mem_of_getElem? (i := 1592) (by decide +kernel)) (by decide +kernel)
theorem mw_1593 : Cond.fieldLink "RecordLakeModel$Text" 82 "RecordLakeModel$Text" "place" "I" ∈ gW := gw_of (List.mem_of_getElem? (i := 1593) (by decide +kernel)) (by decide +kernel)
theorem mw_1597 : Cond.fieldLink "RecordLakeModel$Text" 109 "RecordLakeModel$Text" "nodes" "I" ∈ gW := gw_of (List.mem_of_getElem? (i := 1597) (by decide +kernel)) (by decide +kernel)
theorem mw_1857 : Cond.classLink "RecordLakeModel$Text" 85 "java/lang/IllegalStateException" ∈ gW := gw_of (List.mem_of_getElem? (i := 1857) (by decide +kernel)) (by decide +kernel)
theorem mw_1861 : Cond.code ⟨"RecordLakeModel$Text", "readAll", "()V"⟩ prog_15_method_34_code 4 none ∈ gW := gw_of (List.mem_of_getElem? (i := 1861) (by decide +kernel)) (by decide +kernel)
theorem mw_1862 : Cond.methodLink "RecordLakeModel$Text" 149 ⟨"RecordLakeModel$Text", "blanks", "()V"⟩ ∈ gW := gw_of (List.mem_of_getElem? (i := 1862) (by decide +kernel)) (by decide +kernel)
theorem mw_1864 : Cond.instanceMethod ⟨"RecordLakeModel$Text", "blanks", "()V"⟩ ∈ gW := gw_of (List.mem_of_getElem? (i := 1864) (by decide +kernel)) (by decide +kernel)
theorem mw_1870 : Cond.methodLink "RecordLakeModel$Text" 152 ⟨"RecordLakeModel$Text", "value", "()I"⟩ ∈ gW := gw_of (List.mem_of_getElem? (i := 1870) (by decide +kernel)) (by decide +kernel)
theorem mw_1872 : Cond.instanceMethod ⟨"RecordLakeModel$Text", "value", "()I"⟩ ∈ gW := gw_of (List.mem_of_getElem? (i := 1872) (by decide +kernel)) (by decide +kernel)
theorem mw_1873 : Cond.code ⟨"RecordLakeModel$Text", "value", "()I"⟩ prog_15_method_8_code 5 (some .int) ∈ gW := gw_of (List.mem_of_getElem? (i := 1873) (by decide +kernel)) (by decide +kernel)
theorem mw_1874 : Cond.methodLink "RecordLakeModel$Text" 105 ⟨"RecordLakeModel$Text", "need", "(ZII)V"⟩ ∈ gW := gw_of (List.mem_of_getElem? (i := 1874) (by decide +kernel)) (by decide +kernel)
theorem mw_1876 : Cond.instanceMethod ⟨"RecordLakeModel$Text", "need", "(ZII)V"⟩ ∈ gW := gw_of (List.mem_of_getElem? (i := 1876) (by decide +kernel)) (by decide +kernel)
theorem mw_1877 : Cond.code ⟨"RecordLakeModel$Text", "need", "(ZII)V"⟩ prog_15_method_3_code 4 none ∈ gW := gw_of (List.mem_of_getElem? (i := 1877) (by decide +kernel)) (by decide +kernel)
theorem mw_1878 : Cond.methodLink "RecordLakeModel$Text" 91 ⟨"RecordLakeModel$Text", "fail", "(II)V"⟩ ∈ gW := gw_of (List.mem_of_getElem? (i := 1878) (by decide +kernel)) (by decide +kernel)
theorem mw_1880 : Cond.instanceMethod ⟨"RecordLakeModel$Text", "fail", "(II)V"⟩ ∈ gW := gw_of (List.mem_of_getElem? (i := 1880) (by decide +kernel)) (by decide +kernel)
theorem mw_1881 : Cond.code ⟨"RecordLakeModel$Text", "fail", "(II)V"⟩ prog_15_method_2_code 3 none ∈ gW := gw_of (List.mem_of_getElem? (i := 1881) (by decide +kernel)) (by decide +kernel)
theorem mw_1888 : Cond.methodLink "RecordLakeModel$Text" 127 ⟨"RecordLakeModel$Text", "node", "(I)I"⟩ ∈ gW := gw_of (List.mem_of_getElem? (i := 1888) (by decide +kernel)) (by decide +kernel)
theorem mw_1890 : Cond.instanceMethod ⟨"RecordLakeModel$Text", "node", "(I)I"⟩ ∈ gW := gw_of (List.mem_of_getElem? (i := 1890) (by decide +kernel)) (by decide +kernel)
theorem mw_1891 : Cond.code ⟨"RecordLakeModel$Text", "node", "(I)I"⟩ prog_15_method_7_code 2 (some .int) ∈ gW := gw_of (List.mem_of_getElem? (i := 1891) (by decide +kernel)) (by decide +kernel)
theorem mw_1956 : Cond.methodLink "RecordLakeModel$Text" 145 ⟨"RecordLakeModel$Text", "take", "(I)V"⟩ ∈ gW := gw_of (List.mem_of_getElem? (i := 1956) (by decide +kernel)) (by decide +kernel)
theorem mw_1958 : Cond.instanceMethod ⟨"RecordLakeModel$Text", "take", "(I)V"⟩ ∈ gW := gw_of (List.mem_of_getElem? (i := 1958) (by decide +kernel)) (by decide +kernel)
theorem mw_1959 : Cond.code ⟨"RecordLakeModel$Text", "take", "(I)V"⟩ prog_15_method_6_code 2 none ∈ gW := gw_of (List.mem_of_getElem? (i := 1959) (by decide +kernel)) (by decide +kernel)
theorem mw_1980 : Cond.methodLink "RecordLakeModel$Text" 137 ⟨"java/lang/String", "length", "()I"⟩ ∈ gW := gw_of (List.mem_of_getElem? (i := 1980) (by decide +kernel)) (by decide +kernel)
theorem mw_1981 : Cond.methodLink "RecordLakeModel$Text" 141 ⟨"java/lang/String", "charAt", "(I)C"⟩ ∈ gW := gw_of (List.mem_of_getElem? (i := 1981) (by decide +kernel)) (by decide +kernel)
theorem ms_100 : Cond.selects "RecordLakeModel$Text" ⟨"RecordLakeModel$Text", "blanks", "()V"⟩ ⟨"RecordLakeModel$Text", "blanks", "()V"⟩ ∈ gW := gw_sel (List.mem_of_getElem? (i := 100) (by decide +kernel)) (by decide +kernel)
theorem ms_102 : Cond.selects "RecordLakeModel$Text" ⟨"RecordLakeModel$Text", "value", "()I"⟩ ⟨"RecordLakeModel$Text", "value", "()I"⟩ ∈ gW := gw_sel (List.mem_of_getElem? (i := 102) (by decide +kernel)) (by decide +kernel)
theorem ms_103 : Cond.selects "RecordLakeModel$Text" ⟨"RecordLakeModel$Text", "need", "(ZII)V"⟩ ⟨"RecordLakeModel$Text", "need", "(ZII)V"⟩ ∈ gW := gw_sel (List.mem_of_getElem? (i := 103) (by decide +kernel)) (by decide +kernel)
theorem ms_104 : Cond.selects "RecordLakeModel$Text" ⟨"RecordLakeModel$Text", "fail", "(II)V"⟩ ⟨"RecordLakeModel$Text", "fail", "(II)V"⟩ ∈ gW := gw_sel (List.mem_of_getElem? (i := 104) (by decide +kernel)) (by decide +kernel)
theorem ms_106 : Cond.selects "RecordLakeModel$Text" ⟨"RecordLakeModel$Text", "node", "(I)I"⟩ ⟨"RecordLakeModel$Text", "node", "(I)I"⟩ ∈ gW := gw_sel (List.mem_of_getElem? (i := 106) (by decide +kernel)) (by decide +kernel)
theorem ms_109 : Cond.selects "RecordLakeModel$Text" ⟨"RecordLakeModel$Text", "take", "(I)V"⟩ ⟨"RecordLakeModel$Text", "take", "(I)V"⟩ ∈ gW := gw_sel (List.mem_of_getElem? (i := 109) (by decide +kernel)) (by decide +kernel)
abbrev b_Mt_fail : ByteArray := prog_15_method_2_code
abbrev y_Mt_fail : MethodName := ⟨"RecordLakeModel$Text", "fail", "(II)V"⟩
abbrev w_Mt_fail : List Cond := Cond.code y_Mt_fail b_Mt_fail 3 none :: gW
theorem d_Mt_fail_0 : decode b_Mt_fail 0 = .ok (.aload_n 0, 1) := by decide +kernel
theorem d_Mt_fail_1 : decode b_Mt_fail 1 = .ok (.iload_n 1, 1) := by decide +kernel
theorem d_Mt_fail_2 : decode b_Mt_fail 2 = .ok (.putfield 78, 3) := by decide +kernel
theorem d_Mt_fail_5 : decode b_Mt_fail 5 = .ok (.aload_n 0, 1) := by decide +kernel
theorem d_Mt_fail_6 : decode b_Mt_fail 6 = .ok (.iload_n 2, 1) := by decide +kernel
theorem d_Mt_fail_7 : decode b_Mt_fail 7 = .ok (.putfield 82, 3) := by decide +kernel
theorem d_Mt_fail_10 : decode b_Mt_fail 10 = .ok (.new 85, 3) := by decide +kernel
theorem d_Mt_fail_13 : decode b_Mt_fail 13 = .ok (.dup, 1) := by decide +kernel
theorem d_Mt_fail_14 : decode b_Mt_fail 14 = .ok (.ldc 87, 2) := by decide +kernel
theorem d_Mt_fail_16 : decode b_Mt_fail 16 = .ok (.invokespecial 88, 3) := by decide +kernel
theorem d_Mt_fail_19 : decode b_Mt_fail 19 = .ok (.athrow, 1) := by decide +kernel
abbrev b_Mt_need : ByteArray := prog_15_method_3_code
abbrev y_Mt_need : MethodName := ⟨"RecordLakeModel$Text", "need", "(ZII)V"⟩
abbrev w_Mt_need : List Cond := Cond.code y_Mt_need b_Mt_need 4 none :: gW
theorem d_Mt_need_0 : decode b_Mt_need 0 = .ok (.iload_n 1, 1) := by decide +kernel
theorem d_Mt_need_1 : decode b_Mt_need 1 = .ok (.ifCond .ne 9, 3) := by decide +kernel
theorem d_Mt_need_4 : decode b_Mt_need 4 = .ok (.aload_n 0, 1) := by decide +kernel
theorem d_Mt_need_5 : decode b_Mt_need 5 = .ok (.iload_n 2, 1) := by decide +kernel
theorem d_Mt_need_6 : decode b_Mt_need 6 = .ok (.iload_n 3, 1) := by decide +kernel
theorem d_Mt_need_7 : decode b_Mt_need 7 = .ok (.invokevirtual 91, 3) := by decide +kernel
theorem d_Mt_need_10 : decode b_Mt_need 10 = .ok (.return_, 1) := by decide +kernel
abbrev b_Mt_take : ByteArray := prog_15_method_6_code
abbrev y_Mt_take : MethodName := ⟨"RecordLakeModel$Text", "take", "(I)V"⟩
abbrev w_Mt_take : List Cond := Cond.code y_Mt_take b_Mt_take 2 none :: gW
theorem d_Mt_take_0 : decode b_Mt_take 0 = .ok (.aload_n 0, 1) := by decide +kernel
theorem d_Mt_take_1 : decode b_Mt_take 1 = .ok (.aload_n 0, 1) := by decide +kernel
theorem d_Mt_take_2 : decode b_Mt_take 2 = .ok (.invokevirtual 101, 3) := by decide +kernel
theorem d_Mt_take_5 : decode b_Mt_take 5 = .ok (.iload_n 1, 1) := by decide +kernel
theorem d_Mt_take_6 : decode b_Mt_take 6 = .ok (.if_icmp .ne 7, 3) := by decide +kernel
theorem d_Mt_take_9 : decode b_Mt_take 9 = .ok (.iconst 1, 1) := by decide +kernel
theorem d_Mt_take_10 : decode b_Mt_take 10 = .ok (.goto 4, 3) := by decide +kernel
theorem d_Mt_take_13 : decode b_Mt_take 13 = .ok (.iconst 0, 1) := by decide +kernel
theorem d_Mt_take_14 : decode b_Mt_take 14 = .ok (.iconst 1, 1) := by decide +kernel
theorem d_Mt_take_15 : decode b_Mt_take 15 = .ok (.aload_n 0, 1) := by decide +kernel
theorem d_Mt_take_16 : decode b_Mt_take 16 = .ok (.getfield 95, 3) := by decide +kernel
theorem d_Mt_take_19 : decode b_Mt_take 19 = .ok (.invokevirtual 105, 3) := by decide +kernel
theorem d_Mt_take_22 : decode b_Mt_take 22 = .ok (.aload_n 0, 1) := by decide +kernel
theorem d_Mt_take_23 : decode b_Mt_take 23 = .ok (.dup, 1) := by decide +kernel
theorem d_Mt_take_24 : decode b_Mt_take 24 = .ok (.getfield 95, 3) := by decide +kernel
theorem d_Mt_take_27 : decode b_Mt_take 27 = .ok (.iconst 1, 1) := by decide +kernel
theorem d_Mt_take_28 : decode b_Mt_take 28 = .ok (.iadd, 1) := by decide +kernel
theorem d_Mt_take_29 : decode b_Mt_take 29 = .ok (.putfield 95, 3) := by decide +kernel
theorem d_Mt_take_32 : decode b_Mt_take 32 = .ok (.return_, 1) := by decide +kernel
abbrev b_Mt_node : ByteArray := prog_15_method_7_code
abbrev y_Mt_node : MethodName := ⟨"RecordLakeModel$Text", "node", "(I)I"⟩
abbrev w_Mt_node : List Cond := Cond.code y_Mt_node b_Mt_node 2 (some .int) :: gW
theorem d_Mt_node_0 : decode b_Mt_node 0 = .ok (.aload_n 0, 1) := by decide +kernel
theorem d_Mt_node_1 : decode b_Mt_node 1 = .ok (.getfield 15, 3) := by decide +kernel
theorem d_Mt_node_4 : decode b_Mt_node 4 = .ok (.aload_n 0, 1) := by decide +kernel
theorem d_Mt_node_5 : decode b_Mt_node 5 = .ok (.getfield 109, 3) := by decide +kernel
theorem d_Mt_node_8 : decode b_Mt_node 8 = .ok (.iload_n 1, 1) := by decide +kernel
theorem d_Mt_node_9 : decode b_Mt_node 9 = .ok (.iastore, 1) := by decide +kernel
theorem d_Mt_node_10 : decode b_Mt_node 10 = .ok (.aload_n 0, 1) := by decide +kernel
theorem d_Mt_node_11 : decode b_Mt_node 11 = .ok (.getfield 19, 3) := by decide +kernel
theorem d_Mt_node_14 : decode b_Mt_node 14 = .ok (.aload_n 0, 1) := by decide +kernel
theorem d_Mt_node_15 : decode b_Mt_node 15 = .ok (.getfield 109, 3) := by decide +kernel
theorem d_Mt_node_18 : decode b_Mt_node 18 = .ok (.aload_n 0, 1) := by decide +kernel
theorem d_Mt_node_19 : decode b_Mt_node 19 = .ok (.getfield 95, 3) := by decide +kernel
theorem d_Mt_node_22 : decode b_Mt_node 22 = .ok (.iastore, 1) := by decide +kernel
theorem d_Mt_node_23 : decode b_Mt_node 23 = .ok (.aload_n 0, 1) := by decide +kernel
theorem d_Mt_node_24 : decode b_Mt_node 24 = .ok (.getfield 22, 3) := by decide +kernel
theorem d_Mt_node_27 : decode b_Mt_node 27 = .ok (.aload_n 0, 1) := by decide +kernel
theorem d_Mt_node_28 : decode b_Mt_node 28 = .ok (.getfield 109, 3) := by decide +kernel
theorem d_Mt_node_31 : decode b_Mt_node 31 = .ok (.lconst 0, 1) := by decide +kernel
theorem d_Mt_node_32 : decode b_Mt_node 32 = .ok (.lastore, 1) := by decide +kernel
theorem d_Mt_node_33 : decode b_Mt_node 33 = .ok (.aload_n 0, 1) := by decide +kernel
theorem d_Mt_node_34 : decode b_Mt_node 34 = .ok (.getfield 26, 3) := by decide +kernel
theorem d_Mt_node_37 : decode b_Mt_node 37 = .ok (.aload_n 0, 1) := by decide +kernel
theorem d_Mt_node_38 : decode b_Mt_node 38 = .ok (.getfield 109, 3) := by decide +kernel
theorem d_Mt_node_41 : decode b_Mt_node 41 = .ok (.iconst 0, 1) := by decide +kernel
theorem d_Mt_node_42 : decode b_Mt_node 42 = .ok (.iastore, 1) := by decide +kernel
theorem d_Mt_node_43 : decode b_Mt_node 43 = .ok (.aload_n 0, 1) := by decide +kernel
theorem d_Mt_node_44 : decode b_Mt_node 44 = .ok (.getfield 29, 3) := by decide +kernel
theorem d_Mt_node_47 : decode b_Mt_node 47 = .ok (.aload_n 0, 1) := by decide +kernel
theorem d_Mt_node_48 : decode b_Mt_node 48 = .ok (.getfield 109, 3) := by decide +kernel
theorem d_Mt_node_51 : decode b_Mt_node 51 = .ok (.iconst (-1), 1) := by decide +kernel
theorem d_Mt_node_52 : decode b_Mt_node 52 = .ok (.iastore, 1) := by decide +kernel
theorem d_Mt_node_53 : decode b_Mt_node 53 = .ok (.aload_n 0, 1) := by decide +kernel
theorem d_Mt_node_54 : decode b_Mt_node 54 = .ok (.getfield 32, 3) := by decide +kernel
theorem d_Mt_node_57 : decode b_Mt_node 57 = .ok (.aload_n 0, 1) := by decide +kernel
theorem d_Mt_node_58 : decode b_Mt_node 58 = .ok (.getfield 109, 3) := by decide +kernel
theorem d_Mt_node_61 : decode b_Mt_node 61 = .ok (.iconst (-1), 1) := by decide +kernel
theorem d_Mt_node_62 : decode b_Mt_node 62 = .ok (.iastore, 1) := by decide +kernel
theorem d_Mt_node_63 : decode b_Mt_node 63 = .ok (.aload_n 0, 1) := by decide +kernel
theorem d_Mt_node_64 : decode b_Mt_node 64 = .ok (.dup, 1) := by decide +kernel
theorem d_Mt_node_65 : decode b_Mt_node 65 = .ok (.getfield 109, 3) := by decide +kernel
theorem d_Mt_node_68 : decode b_Mt_node 68 = .ok (.iconst 1, 1) := by decide +kernel
theorem d_Mt_node_69 : decode b_Mt_node 69 = .ok (.iadd, 1) := by decide +kernel
theorem d_Mt_node_70 : decode b_Mt_node 70 = .ok (.putfield 109, 3) := by decide +kernel
theorem d_Mt_node_73 : decode b_Mt_node 73 = .ok (.aload_n 0, 1) := by decide +kernel
theorem d_Mt_node_74 : decode b_Mt_node 74 = .ok (.getfield 109, 3) := by decide +kernel
theorem d_Mt_node_77 : decode b_Mt_node 77 = .ok (.iconst 1, 1) := by decide +kernel
theorem d_Mt_node_78 : decode b_Mt_node 78 = .ok (.isub, 1) := by decide +kernel
theorem d_Mt_node_79 : decode b_Mt_node 79 = .ok (.ireturn, 1) := by decide +kernel
abbrev b_Mt_value : ByteArray := prog_15_method_8_code
abbrev y_Mt_value : MethodName := ⟨"RecordLakeModel$Text", "value", "()I"⟩
abbrev w_Mt_value : List Cond := Cond.code y_Mt_value b_Mt_value 5 (some .int) :: gW
theorem d_Mt_value_0 : decode b_Mt_value 0 = .ok (.aload_n 0, 1) := by decide +kernel
theorem d_Mt_value_1 : decode b_Mt_value 1 = .ok (.invokevirtual 101, 3) := by decide +kernel
theorem d_Mt_value_4 : decode b_Mt_value 4 = .ok (.istore_n 1, 1) := by decide +kernel
theorem d_Mt_value_5 : decode b_Mt_value 5 = .ok (.iload_n 1, 1) := by decide +kernel
theorem d_Mt_value_6 : decode b_Mt_value 6 = .ok (.bipush 123, 2) := by decide +kernel
theorem d_Mt_value_8 : decode b_Mt_value 8 = .ok (.if_icmp .eq 9, 3) := by decide +kernel
theorem d_Mt_value_11 : decode b_Mt_value 11 = .ok (.iload_n 1, 1) := by decide +kernel
theorem d_Mt_value_12 : decode b_Mt_value 12 = .ok (.bipush 91, 2) := by decide +kernel
theorem d_Mt_value_14 : decode b_Mt_value 14 = .ok (.if_icmp .ne 66, 3) := by decide +kernel
theorem d_Mt_value_17 : decode b_Mt_value 17 = .ok (.aload_n 0, 1) := by decide +kernel
theorem d_Mt_value_18 : decode b_Mt_value 18 = .ok (.aload_n 0, 1) := by decide +kernel
theorem d_Mt_value_19 : decode b_Mt_value 19 = .ok (.getfield 112, 3) := by decide +kernel
theorem d_Mt_value_22 : decode b_Mt_value 22 = .ok (.bipush 24, 2) := by decide +kernel
theorem d_Mt_value_24 : decode b_Mt_value 24 = .ok (.if_icmp .ge 7, 3) := by decide +kernel
theorem d_Mt_value_27 : decode b_Mt_value 27 = .ok (.iconst 1, 1) := by decide +kernel
theorem d_Mt_value_28 : decode b_Mt_value 28 = .ok (.goto 4, 3) := by decide +kernel
theorem d_Mt_value_31 : decode b_Mt_value 31 = .ok (.iconst 0, 1) := by decide +kernel
theorem d_Mt_value_32 : decode b_Mt_value 32 = .ok (.iconst 1, 1) := by decide +kernel
theorem d_Mt_value_33 : decode b_Mt_value 33 = .ok (.aload_n 0, 1) := by decide +kernel
theorem d_Mt_value_34 : decode b_Mt_value 34 = .ok (.getfield 95, 3) := by decide +kernel
theorem d_Mt_value_37 : decode b_Mt_value 37 = .ok (.invokevirtual 105, 3) := by decide +kernel
theorem d_Mt_value_40 : decode b_Mt_value 40 = .ok (.aload_n 0, 1) := by decide +kernel
theorem d_Mt_value_41 : decode b_Mt_value 41 = .ok (.dup, 1) := by decide +kernel
theorem d_Mt_value_42 : decode b_Mt_value 42 = .ok (.getfield 112, 3) := by decide +kernel
theorem d_Mt_value_45 : decode b_Mt_value 45 = .ok (.iconst 1, 1) := by decide +kernel
theorem d_Mt_value_46 : decode b_Mt_value 46 = .ok (.iadd, 1) := by decide +kernel
theorem d_Mt_value_47 : decode b_Mt_value 47 = .ok (.putfield 112, 3) := by decide +kernel
theorem d_Mt_value_50 : decode b_Mt_value 50 = .ok (.iload_n 1, 1) := by decide +kernel
theorem d_Mt_value_51 : decode b_Mt_value 51 = .ok (.bipush 123, 2) := by decide +kernel
theorem d_Mt_value_53 : decode b_Mt_value 53 = .ok (.if_icmp .ne 10, 3) := by decide +kernel
theorem d_Mt_value_56 : decode b_Mt_value 56 = .ok (.aload_n 0, 1) := by decide +kernel
theorem d_Mt_value_57 : decode b_Mt_value 57 = .ok (.invokevirtual 115, 3) := by decide +kernel
theorem d_Mt_value_60 : decode b_Mt_value 60 = .ok (.goto 7, 3) := by decide +kernel
theorem d_Mt_value_63 : decode b_Mt_value 63 = .ok (.aload_n 0, 1) := by decide +kernel
theorem d_Mt_value_64 : decode b_Mt_value 64 = .ok (.invokevirtual 118, 3) := by decide +kernel
theorem d_Mt_value_67 : decode b_Mt_value 67 = .ok (.istore_n 2, 1) := by decide +kernel
theorem d_Mt_value_68 : decode b_Mt_value 68 = .ok (.aload_n 0, 1) := by decide +kernel
theorem d_Mt_value_69 : decode b_Mt_value 69 = .ok (.dup, 1) := by decide +kernel
theorem d_Mt_value_70 : decode b_Mt_value 70 = .ok (.getfield 112, 3) := by decide +kernel
theorem d_Mt_value_73 : decode b_Mt_value 73 = .ok (.iconst 1, 1) := by decide +kernel
theorem d_Mt_value_74 : decode b_Mt_value 74 = .ok (.isub, 1) := by decide +kernel
theorem d_Mt_value_75 : decode b_Mt_value 75 = .ok (.putfield 112, 3) := by decide +kernel
theorem d_Mt_value_78 : decode b_Mt_value 78 = .ok (.iload_n 2, 1) := by decide +kernel
theorem d_Mt_value_79 : decode b_Mt_value 79 = .ok (.ireturn, 1) := by decide +kernel
theorem d_Mt_value_80 : decode b_Mt_value 80 = .ok (.iload_n 1, 1) := by decide +kernel
theorem d_Mt_value_81 : decode b_Mt_value 81 = .ok (.bipush 34, 2) := by decide +kernel
theorem d_Mt_value_83 : decode b_Mt_value 83 = .ok (.if_icmp .ne 8, 3) := by decide +kernel
theorem d_Mt_value_86 : decode b_Mt_value 86 = .ok (.aload_n 0, 1) := by decide +kernel
theorem d_Mt_value_87 : decode b_Mt_value 87 = .ok (.invokevirtual 121, 3) := by decide +kernel
theorem d_Mt_value_90 : decode b_Mt_value 90 = .ok (.ireturn, 1) := by decide +kernel
theorem d_Mt_value_91 : decode b_Mt_value 91 = .ok (.iload_n 1, 1) := by decide +kernel
theorem d_Mt_value_92 : decode b_Mt_value 92 = .ok (.bipush 45, 2) := by decide +kernel
theorem d_Mt_value_94 : decode b_Mt_value 94 = .ok (.if_icmp .eq 15, 3) := by decide +kernel
theorem d_Mt_value_97 : decode b_Mt_value 97 = .ok (.iload_n 1, 1) := by decide +kernel
theorem d_Mt_value_98 : decode b_Mt_value 98 = .ok (.bipush 48, 2) := by decide +kernel
theorem d_Mt_value_100 : decode b_Mt_value 100 = .ok (.if_icmp .lt 14, 3) := by decide +kernel
theorem d_Mt_value_103 : decode b_Mt_value 103 = .ok (.iload_n 1, 1) := by decide +kernel
theorem d_Mt_value_104 : decode b_Mt_value 104 = .ok (.bipush 57, 2) := by decide +kernel
theorem d_Mt_value_106 : decode b_Mt_value 106 = .ok (.if_icmp .gt 8, 3) := by decide +kernel
theorem d_Mt_value_109 : decode b_Mt_value 109 = .ok (.aload_n 0, 1) := by decide +kernel
theorem d_Mt_value_110 : decode b_Mt_value 110 = .ok (.invokevirtual 124, 3) := by decide +kernel
theorem d_Mt_value_113 : decode b_Mt_value 113 = .ok (.ireturn, 1) := by decide +kernel
theorem d_Mt_value_114 : decode b_Mt_value 114 = .ok (.aload_n 0, 1) := by decide +kernel
theorem d_Mt_value_115 : decode b_Mt_value 115 = .ok (.iload_n 1, 1) := by decide +kernel
theorem d_Mt_value_116 : decode b_Mt_value 116 = .ok (.bipush 116, 2) := by decide +kernel
theorem d_Mt_value_118 : decode b_Mt_value 118 = .ok (.if_icmp .ne 7, 3) := by decide +kernel
theorem d_Mt_value_121 : decode b_Mt_value 121 = .ok (.iconst 4, 1) := by decide +kernel
theorem d_Mt_value_122 : decode b_Mt_value 122 = .ok (.goto 15, 3) := by decide +kernel
theorem d_Mt_value_125 : decode b_Mt_value 125 = .ok (.iload_n 1, 1) := by decide +kernel
theorem d_Mt_value_126 : decode b_Mt_value 126 = .ok (.bipush 102, 2) := by decide +kernel
theorem d_Mt_value_128 : decode b_Mt_value 128 = .ok (.if_icmp .ne 7, 3) := by decide +kernel
theorem d_Mt_value_131 : decode b_Mt_value 131 = .ok (.iconst 5, 1) := by decide +kernel
theorem d_Mt_value_132 : decode b_Mt_value 132 = .ok (.goto 5, 3) := by decide +kernel
theorem d_Mt_value_135 : decode b_Mt_value 135 = .ok (.bipush 6, 2) := by decide +kernel
theorem d_Mt_value_137 : decode b_Mt_value 137 = .ok (.invokevirtual 127, 3) := by decide +kernel
theorem d_Mt_value_140 : decode b_Mt_value 140 = .ok (.istore_n 2, 1) := by decide +kernel
theorem d_Mt_value_141 : decode b_Mt_value 141 = .ok (.iload_n 1, 1) := by decide +kernel
theorem d_Mt_value_142 : decode b_Mt_value 142 = .ok (.bipush 116, 2) := by decide +kernel
theorem d_Mt_value_144 : decode b_Mt_value 144 = .ok (.if_icmp .ne 8, 3) := by decide +kernel
theorem d_Mt_value_147 : decode b_Mt_value 147 = .ok (.ldc 131, 2) := by decide +kernel
theorem d_Mt_value_149 : decode b_Mt_value 149 = .ok (.goto 16, 3) := by decide +kernel
theorem d_Mt_value_152 : decode b_Mt_value 152 = .ok (.iload_n 1, 1) := by decide +kernel
theorem d_Mt_value_153 : decode b_Mt_value 153 = .ok (.bipush 102, 2) := by decide +kernel
theorem d_Mt_value_155 : decode b_Mt_value 155 = .ok (.if_icmp .ne 8, 3) := by decide +kernel
theorem d_Mt_value_158 : decode b_Mt_value 158 = .ok (.ldc 133, 2) := by decide +kernel
theorem d_Mt_value_160 : decode b_Mt_value 160 = .ok (.goto 5, 3) := by decide +kernel
theorem d_Mt_value_163 : decode b_Mt_value 163 = .ok (.ldc 135, 2) := by decide +kernel
theorem d_Mt_value_165 : decode b_Mt_value 165 = .ok (.astore_n 3, 1) := by decide +kernel
theorem d_Mt_value_166 : decode b_Mt_value 166 = .ok (.iconst 0, 1) := by decide +kernel
theorem d_Mt_value_167 : decode b_Mt_value 167 = .ok (.istore 4, 2) := by decide +kernel
theorem d_Mt_value_169 : decode b_Mt_value 169 = .ok (.iload 4, 2) := by decide +kernel
theorem d_Mt_value_171 : decode b_Mt_value 171 = .ok (.aload_n 3, 1) := by decide +kernel
theorem d_Mt_value_172 : decode b_Mt_value 172 = .ok (.invokevirtual 137, 3) := by decide +kernel
theorem d_Mt_value_175 : decode b_Mt_value 175 = .ok (.if_icmp .ge 19, 3) := by decide +kernel
theorem d_Mt_value_178 : decode b_Mt_value 178 = .ok (.aload_n 0, 1) := by decide +kernel
theorem d_Mt_value_179 : decode b_Mt_value 179 = .ok (.aload_n 3, 1) := by decide +kernel
theorem d_Mt_value_180 : decode b_Mt_value 180 = .ok (.iload 4, 2) := by decide +kernel
theorem d_Mt_value_182 : decode b_Mt_value 182 = .ok (.invokevirtual 141, 3) := by decide +kernel
theorem d_Mt_value_185 : decode b_Mt_value 185 = .ok (.invokevirtual 145, 3) := by decide +kernel
theorem d_Mt_value_188 : decode b_Mt_value 188 = .ok (.iinc 4 1, 3) := by decide +kernel
theorem d_Mt_value_191 : decode b_Mt_value 191 = .ok (.goto (-22), 3) := by decide +kernel
theorem d_Mt_value_194 : decode b_Mt_value 194 = .ok (.iload_n 2, 1) := by decide +kernel
theorem d_Mt_value_195 : decode b_Mt_value 195 = .ok (.ireturn, 1) := by decide +kernel
abbrev b_Mt_readAll : ByteArray := prog_15_method_34_code
abbrev y_Mt_readAll : MethodName := ⟨"RecordLakeModel$Text", "readAll", "()V"⟩
abbrev w_Mt_readAll : List Cond := Cond.code y_Mt_readAll b_Mt_readAll 4 none :: gW
theorem d_Mt_readAll_0 : decode b_Mt_readAll 0 = .ok (.aload_n 0, 1) := by decide +kernel
theorem d_Mt_readAll_1 : decode b_Mt_readAll 1 = .ok (.invokevirtual 149, 3) := by decide +kernel
theorem d_Mt_readAll_4 : decode b_Mt_readAll 4 = .ok (.aload_n 0, 1) := by decide +kernel
theorem d_Mt_readAll_5 : decode b_Mt_readAll 5 = .ok (.invokevirtual 152, 3) := by decide +kernel
theorem d_Mt_readAll_8 : decode b_Mt_readAll 8 = .ok (.istore_n 1, 1) := by decide +kernel
theorem d_Mt_readAll_9 : decode b_Mt_readAll 9 = .ok (.aload_n 0, 1) := by decide +kernel
theorem d_Mt_readAll_10 : decode b_Mt_readAll 10 = .ok (.aload_n 0, 1) := by decide +kernel
theorem d_Mt_readAll_11 : decode b_Mt_readAll 11 = .ok (.getfield 95, 3) := by decide +kernel
theorem d_Mt_readAll_14 : decode b_Mt_readAll 14 = .ok (.putfield 292, 3) := by decide +kernel
theorem d_Mt_readAll_17 : decode b_Mt_readAll 17 = .ok (.aload_n 0, 1) := by decide +kernel
theorem d_Mt_readAll_18 : decode b_Mt_readAll 18 = .ok (.invokevirtual 149, 3) := by decide +kernel
theorem d_Mt_readAll_21 : decode b_Mt_readAll 21 = .ok (.aload_n 0, 1) := by decide +kernel
theorem d_Mt_readAll_22 : decode b_Mt_readAll 22 = .ok (.aload_n 0, 1) := by decide +kernel
theorem d_Mt_readAll_23 : decode b_Mt_readAll 23 = .ok (.getfield 95, 3) := by decide +kernel
theorem d_Mt_readAll_26 : decode b_Mt_readAll 26 = .ok (.aload_n 0, 1) := by decide +kernel
theorem d_Mt_readAll_27 : decode b_Mt_readAll 27 = .ok (.getfield 98, 3) := by decide +kernel
theorem d_Mt_readAll_30 : decode b_Mt_readAll 30 = .ok (.if_icmp .ne 7, 3) := by decide +kernel
theorem d_Mt_readAll_33 : decode b_Mt_readAll 33 = .ok (.iconst 1, 1) := by decide +kernel
theorem d_Mt_readAll_34 : decode b_Mt_readAll 34 = .ok (.goto 4, 3) := by decide +kernel
theorem d_Mt_readAll_37 : decode b_Mt_readAll 37 = .ok (.iconst 0, 1) := by decide +kernel
theorem d_Mt_readAll_38 : decode b_Mt_readAll 38 = .ok (.iconst 1, 1) := by decide +kernel
theorem d_Mt_readAll_39 : decode b_Mt_readAll 39 = .ok (.aload_n 0, 1) := by decide +kernel
theorem d_Mt_readAll_40 : decode b_Mt_readAll 40 = .ok (.getfield 95, 3) := by decide +kernel
theorem d_Mt_readAll_43 : decode b_Mt_readAll 43 = .ok (.invokevirtual 105, 3) := by decide +kernel
theorem d_Mt_readAll_46 : decode b_Mt_readAll 46 = .ok (.aload_n 0, 1) := by decide +kernel
theorem d_Mt_readAll_47 : decode b_Mt_readAll 47 = .ok (.aload_n 0, 1) := by decide +kernel
theorem d_Mt_readAll_48 : decode b_Mt_readAll 48 = .ok (.iload_n 1, 1) := by decide +kernel
theorem d_Mt_readAll_49 : decode b_Mt_readAll 49 = .ok (.iconst 0, 1) := by decide +kernel
theorem d_Mt_readAll_50 : decode b_Mt_readAll 50 = .ok (.iconst 0, 1) := by decide +kernel
theorem d_Mt_readAll_51 : decode b_Mt_readAll 51 = .ok (.invokevirtual 229, 3) := by decide +kernel
theorem d_Mt_readAll_54 : decode b_Mt_readAll 54 = .ok (.putfield 286, 3) := by decide +kernel
theorem d_Mt_readAll_57 : decode b_Mt_readAll 57 = .ok (.iconst 0, 1) := by decide +kernel
theorem d_Mt_readAll_58 : decode b_Mt_readAll 58 = .ok (.istore_n 2, 1) := by decide +kernel
theorem d_Mt_readAll_59 : decode b_Mt_readAll 59 = .ok (.iload_n 2, 1) := by decide +kernel
theorem d_Mt_readAll_60 : decode b_Mt_readAll 60 = .ok (.aload_n 0, 1) := by decide +kernel
theorem d_Mt_readAll_61 : decode b_Mt_readAll 61 = .ok (.getfield 271, 3) := by decide +kernel
theorem d_Mt_readAll_64 : decode b_Mt_readAll 64 = .ok (.if_icmp .ge 41, 3) := by decide +kernel
theorem d_Mt_readAll_67 : decode b_Mt_readAll 67 = .ok (.aload_n 0, 1) := by decide +kernel
theorem d_Mt_readAll_68 : decode b_Mt_readAll 68 = .ok (.getfield 68, 3) := by decide +kernel
theorem d_Mt_readAll_71 : decode b_Mt_readAll 71 = .ok (.iload_n 2, 1) := by decide +kernel
theorem d_Mt_readAll_72 : decode b_Mt_readAll 72 = .ok (.iaload, 1) := by decide +kernel
theorem d_Mt_readAll_73 : decode b_Mt_readAll 73 = .ok (.istore_n 3, 1) := by decide +kernel
theorem d_Mt_readAll_74 : decode b_Mt_readAll 74 = .ok (.aload_n 0, 1) := by decide +kernel
theorem d_Mt_readAll_75 : decode b_Mt_readAll 75 = .ok (.getfield 62, 3) := by decide +kernel
theorem d_Mt_readAll_78 : decode b_Mt_readAll 78 = .ok (.iload_n 3, 1) := by decide +kernel
theorem d_Mt_readAll_79 : decode b_Mt_readAll 79 = .ok (.iaload, 1) := by decide +kernel
theorem d_Mt_readAll_80 : decode b_Mt_readAll 80 = .ok (.ifCond .lt 19, 3) := by decide +kernel
theorem d_Mt_readAll_83 : decode b_Mt_readAll 83 = .ok (.aload_n 0, 1) := by decide +kernel
theorem d_Mt_readAll_84 : decode b_Mt_readAll 84 = .ok (.aload_n 0, 1) := by decide +kernel
theorem d_Mt_readAll_85 : decode b_Mt_readAll 85 = .ok (.getfield 62, 3) := by decide +kernel
theorem d_Mt_readAll_88 : decode b_Mt_readAll 88 = .ok (.iload_n 3, 1) := by decide +kernel
theorem d_Mt_readAll_89 : decode b_Mt_readAll 89 = .ok (.iaload, 1) := by decide +kernel
theorem d_Mt_readAll_90 : decode b_Mt_readAll 90 = .ok (.aload_n 0, 1) := by decide +kernel
theorem d_Mt_readAll_91 : decode b_Mt_readAll 91 = .ok (.getfield 56, 3) := by decide +kernel
theorem d_Mt_readAll_94 : decode b_Mt_readAll 94 = .ok (.iload_n 3, 1) := by decide +kernel
theorem d_Mt_readAll_95 : decode b_Mt_readAll 95 = .ok (.iaload, 1) := by decide +kernel
theorem d_Mt_readAll_96 : decode b_Mt_readAll 96 = .ok (.invokevirtual 274, 3) := by decide +kernel
theorem d_Mt_readAll_99 : decode b_Mt_readAll 99 = .ok (.iinc 2 1, 3) := by decide +kernel
theorem d_Mt_readAll_102 : decode b_Mt_readAll 102 = .ok (.goto (-43), 3) := by decide +kernel
theorem d_Mt_readAll_105 : decode b_Mt_readAll 105 = .ok (.return_, 1) := by decide +kernel
