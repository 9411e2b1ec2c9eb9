/-! names: methods, their instructions, words -/
theorem mw_20 : Cond.initialized "java/lang/Math" ∈ gW := gw_of (List.mem_of_getElem? (i := 20) (by decide +kernel)) (by decide +kernel)
theorem mw_54 : Cond.fieldLink "RecordLake$Text" 66 "RecordLake$Bytes" "length" "I" ∈ gW := gw_of (List.mem_of_getElem? (i := 54) (by decide +kernel)) (by decide +kernel)
theorem mw_96 : Cond.fieldLink "RecordLake$Text" 63 "RecordLake$Text" "values" "I" ∈ gW := gw_of (List.mem_of_getElem? (i := 96) (by decide +kernel)) (by decide +kernel)
theorem mw_98 : Cond.fieldLink "RecordLake$Text" 74 "RecordLake$Text" "root" "I" ∈ gW := gw_of (List.mem_of_getElem? (i := 98) (by decide +kernel)) (by decide +kernel)
theorem mw_99 : Cond.fieldLink "RecordLake$Text" 77 "RecordLake$Text" "valueEnd" "I" ∈ gW := gw_of (List.mem_of_getElem? (i := 99) (by decide +kernel)) (by decide +kernel)
theorem mw_104 : Cond.fieldLink "RecordLake$Text" 47 "RecordLake$Text" "from" "I" ∈ gW := gw_of (List.mem_of_getElem? (i := 104) (by decide +kernel)) (by decide +kernel)
theorem mw_546 : Cond.code ⟨"RecordLake$Text", "parse", "([BII)V"⟩ prog_12_method_2_code 4 none ∈ gW := gw_of (List.mem_of_getElem? (i := 546) (by decide +kernel)) (by decide +kernel)
theorem mw_547 : Cond.methodLink "RecordLake$Text" 51 ⟨"java/lang/Math", "min", "(II)I"⟩ ∈ gW := gw_of (List.mem_of_getElem? (i := 547) (by decide +kernel)) (by decide +kernel)
theorem mw_548 : Cond.static ⟨"java/lang/Math", "min", "(II)I"⟩ ∈ gW := gw_of (List.mem_of_getElem? (i := 548) (by decide +kernel)) (by decide +kernel)
theorem mw_549 : Cond.code ⟨"java/lang/Math", "min", "(II)I"⟩ prog_21_method_69_code 2 (some .int) ∈ gW := gw_of (List.mem_of_getElem? (i := 549) (by decide +kernel)) (by decide +kernel)
theorem mw_550 : Cond.methodLink "RecordLake$Text" 70 ⟨"RecordLake$Text", "value", "(I)I"⟩ ∈ gW := gw_of (List.mem_of_getElem? (i := 550) (by decide +kernel)) (by decide +kernel)
theorem mw_552 : Cond.instanceMethod ⟨"RecordLake$Text", "value", "(I)I"⟩ ∈ gW := gw_of (List.mem_of_getElem? (i := 552) (by decide +kernel)) (by decide +kernel)
theorem ms_1 : Cond.selects "RecordLake$Text" ⟨"RecordLake$Text", "value", "(I)I"⟩ ⟨"RecordLake$Text", "value", "(I)I"⟩ ∈ gW := gw_sel (List.mem_of_getElem? (i := 1) (by decide +kernel)) (by decide +kernel)
abbrev b_Tx_parse : ByteArray := prog_12_method_2_code
abbrev y_Tx_parse : MethodName := ⟨"RecordLake$Text", "parse", "([BII)V"⟩
abbrev w_Tx_parse : List Cond := Cond.code y_Tx_parse b_Tx_parse 4 none :: gW
theorem d_Tx_parse_0 : decode b_Tx_parse 0 = .ok (.aload_n 0, 1) := by decide +kernel
theorem d_Tx_parse_1 : decode b_Tx_parse 1 = .ok (.aload_n 1, 1) := by decide +kernel
theorem d_Tx_parse_2 : decode b_Tx_parse 2 = .ok (.putfield 44, 3) := by decide +kernel
theorem d_Tx_parse_5 : decode b_Tx_parse 5 = .ok (.aload_n 0, 1) := by decide +kernel
theorem d_Tx_parse_6 : decode b_Tx_parse 6 = .ok (.iload_n 2, 1) := by decide +kernel
theorem d_Tx_parse_7 : decode b_Tx_parse 7 = .ok (.putfield 47, 3) := by decide +kernel
theorem d_Tx_parse_10 : decode b_Tx_parse 10 = .ok (.aload_n 0, 1) := by decide +kernel
theorem d_Tx_parse_11 : decode b_Tx_parse 11 = .ok (.iload_n 3, 1) := by decide +kernel
theorem d_Tx_parse_12 : decode b_Tx_parse 12 = .ok (.sipush 4096, 3) := by decide +kernel
theorem d_Tx_parse_15 : decode b_Tx_parse 15 = .ok (.invokestatic 51, 3) := by decide +kernel
theorem d_Tx_parse_18 : decode b_Tx_parse 18 = .ok (.putfield 57, 3) := by decide +kernel
theorem d_Tx_parse_21 : decode b_Tx_parse 21 = .ok (.aload_n 0, 1) := by decide +kernel
theorem d_Tx_parse_22 : decode b_Tx_parse 22 = .ok (.iconst 0, 1) := by decide +kernel
theorem d_Tx_parse_23 : decode b_Tx_parse 23 = .ok (.putfield 60, 3) := by decide +kernel
theorem d_Tx_parse_26 : decode b_Tx_parse 26 = .ok (.aload_n 0, 1) := by decide +kernel
theorem d_Tx_parse_27 : decode b_Tx_parse 27 = .ok (.iconst 0, 1) := by decide +kernel
theorem d_Tx_parse_28 : decode b_Tx_parse 28 = .ok (.putfield 63, 3) := by decide +kernel
theorem d_Tx_parse_31 : decode b_Tx_parse 31 = .ok (.aload_n 0, 1) := by decide +kernel
theorem d_Tx_parse_32 : decode b_Tx_parse 32 = .ok (.getfield 36, 3) := by decide +kernel
theorem d_Tx_parse_35 : decode b_Tx_parse 35 = .ok (.iconst 0, 1) := by decide +kernel
theorem d_Tx_parse_36 : decode b_Tx_parse 36 = .ok (.putfield 66, 3) := by decide +kernel
theorem d_Tx_parse_39 : decode b_Tx_parse 39 = .ok (.aload_n 0, 1) := by decide +kernel
theorem d_Tx_parse_40 : decode b_Tx_parse 40 = .ok (.iconst (-1), 1) := by decide +kernel
theorem d_Tx_parse_41 : decode b_Tx_parse 41 = .ok (.putfield 67, 3) := by decide +kernel
theorem d_Tx_parse_44 : decode b_Tx_parse 44 = .ok (.aload_n 0, 1) := by decide +kernel
theorem d_Tx_parse_45 : decode b_Tx_parse 45 = .ok (.aload_n 0, 1) := by decide +kernel
theorem d_Tx_parse_46 : decode b_Tx_parse 46 = .ok (.iconst 0, 1) := by decide +kernel
theorem d_Tx_parse_47 : decode b_Tx_parse 47 = .ok (.invokevirtual 70, 3) := by decide +kernel
theorem d_Tx_parse_50 : decode b_Tx_parse 50 = .ok (.putfield 74, 3) := by decide +kernel
theorem d_Tx_parse_53 : decode b_Tx_parse 53 = .ok (.aload_n 0, 1) := by decide +kernel
theorem d_Tx_parse_54 : decode b_Tx_parse 54 = .ok (.aload_n 0, 1) := by decide +kernel
theorem d_Tx_parse_55 : decode b_Tx_parse 55 = .ok (.getfield 60, 3) := by decide +kernel
theorem d_Tx_parse_58 : decode b_Tx_parse 58 = .ok (.putfield 77, 3) := by decide +kernel
theorem d_Tx_parse_61 : decode b_Tx_parse 61 = .ok (.aload_n 0, 1) := by decide +kernel
theorem d_Tx_parse_62 : decode b_Tx_parse 62 = .ok (.invokevirtual 80, 3) := by decide +kernel
theorem d_Tx_parse_65 : decode b_Tx_parse 65 = .ok (.aload_n 0, 1) := by decide +kernel
theorem d_Tx_parse_66 : decode b_Tx_parse 66 = .ok (.getfield 74, 3) := by decide +kernel
theorem d_Tx_parse_69 : decode b_Tx_parse 69 = .ok (.iconst (-1), 1) := by decide +kernel
theorem d_Tx_parse_70 : decode b_Tx_parse 70 = .ok (.if_icmp .eq 22, 3) := by decide +kernel
theorem d_Tx_parse_73 : decode b_Tx_parse 73 = .ok (.aload_n 0, 1) := by decide +kernel
theorem d_Tx_parse_74 : decode b_Tx_parse 74 = .ok (.getfield 60, 3) := by decide +kernel
theorem d_Tx_parse_77 : decode b_Tx_parse 77 = .ok (.aload_n 0, 1) := by decide +kernel
theorem d_Tx_parse_78 : decode b_Tx_parse 78 = .ok (.getfield 57, 3) := by decide +kernel
theorem d_Tx_parse_81 : decode b_Tx_parse 81 = .ok (.if_icmp .ge 11, 3) := by decide +kernel
theorem d_Tx_parse_84 : decode b_Tx_parse 84 = .ok (.aload_n 0, 1) := by decide +kernel
theorem d_Tx_parse_85 : decode b_Tx_parse 85 = .ok (.aload_n 0, 1) := by decide +kernel
theorem d_Tx_parse_86 : decode b_Tx_parse 86 = .ok (.invokevirtual 83, 3) := by decide +kernel
theorem d_Tx_parse_89 : decode b_Tx_parse 89 = .ok (.putfield 74, 3) := by decide +kernel
theorem d_Tx_parse_92 : decode b_Tx_parse 92 = .ok (.return_, 1) := by decide +kernel
