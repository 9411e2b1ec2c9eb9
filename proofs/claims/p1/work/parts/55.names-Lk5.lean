/-! names: methods, their instructions, words -/
theorem mw_49 : Cond.fieldLink "RecordLake" 281 "RecordLake$Bytes" "row" "[B" ∈ gW := gw_of (List.mem_of_getElem? (i := 49) (by decide +kernel)) (by decide +kernel)
theorem mw_278 : Cond.fieldLink "RecordLake" 296 "RecordLake$SchemaReader" "place" "I" ∈ gW := gw_of (List.mem_of_getElem? (i := 278) (by decide +kernel)) (by decide +kernel)
theorem mw_542 : Cond.code ⟨"RecordLake", "readTape", "()I"⟩ prog_1_method_25_code 2 (some .int) ∈ gW := gw_of (List.mem_of_getElem? (i := 542) (by decide +kernel)) (by decide +kernel)
theorem mw_543 : Cond.methodLink "RecordLake" 285 ⟨"RecordLake$Text", "parse", "([BII)V"⟩ ∈ gW := gw_of (List.mem_of_getElem? (i := 543) (by decide +kernel)) (by decide +kernel)
theorem mw_544 : Cond.instanceMethod ⟨"RecordLake$Text", "parse", "([BII)V"⟩ ∈ gW := gw_of (List.mem_of_getElem? (i := 544) (by decide +kernel)) (by decide +kernel)
theorem mw_545 : Cond.selects "RecordLake$Text" ⟨"RecordLake$Text", "parse", "([BII)V"⟩ ⟨"RecordLake$Text", "parse", "([BII)V"⟩ ∈ gW := gw_of (List.mem_of_getElem? (i := 545) (by decide +kernel)) (by decide +kernel)
theorem mw_688 : Cond.methodLink "RecordLake" 289 ⟨"RecordLake$SchemaReader", "readSchema", "()I"⟩ ∈ gW := gw_of (List.mem_of_getElem? (i := 688) (by decide +kernel)) (by decide +kernel)
theorem mw_689 : Cond.instanceMethod ⟨"RecordLake$SchemaReader", "readSchema", "()I"⟩ ∈ gW := gw_of (List.mem_of_getElem? (i := 689) (by decide +kernel)) (by decide +kernel)
theorem mw_690 : Cond.selects "RecordLake$SchemaReader" ⟨"RecordLake$SchemaReader", "readSchema", "()I"⟩ ⟨"RecordLake$SchemaReader", "readSchema", "()I"⟩ ∈ gW := gw_of (List.mem_of_getElem? (i := 690) (by decide +kernel)) (by decide +kernel)
abbrev b_Lk_readTape : ByteArray := prog_1_method_25_code
abbrev y_Lk_readTape : MethodName := ⟨"RecordLake", "readTape", "()I"⟩
abbrev w_Lk_readTape : List Cond := Cond.code y_Lk_readTape b_Lk_readTape 2 (some .int) :: gW
theorem d_Lk_readTape_0 : decode b_Lk_readTape 0 = .ok (.aload_n 0, 1) := by decide +kernel
theorem d_Lk_readTape_1 : decode b_Lk_readTape 1 = .ok (.getfield 36, 3) := by decide +kernel
theorem d_Lk_readTape_4 : decode b_Lk_readTape 4 = .ok (.aload_n 0, 1) := by decide +kernel
theorem d_Lk_readTape_5 : decode b_Lk_readTape 5 = .ok (.getfield 14, 3) := by decide +kernel
theorem d_Lk_readTape_8 : decode b_Lk_readTape 8 = .ok (.getfield 281, 3) := by decide +kernel
theorem d_Lk_readTape_11 : decode b_Lk_readTape 11 = .ok (.iconst 0, 1) := by decide +kernel
theorem d_Lk_readTape_12 : decode b_Lk_readTape 12 = .ok (.aload_n 0, 1) := by decide +kernel
theorem d_Lk_readTape_13 : decode b_Lk_readTape 13 = .ok (.getfield 14, 3) := by decide +kernel
theorem d_Lk_readTape_16 : decode b_Lk_readTape 16 = .ok (.getfield 110, 3) := by decide +kernel
theorem d_Lk_readTape_19 : decode b_Lk_readTape 19 = .ok (.invokevirtual 285, 3) := by decide +kernel
theorem d_Lk_readTape_22 : decode b_Lk_readTape 22 = .ok (.aload_n 0, 1) := by decide +kernel
theorem d_Lk_readTape_23 : decode b_Lk_readTape 23 = .ok (.getfield 52, 3) := by decide +kernel
theorem d_Lk_readTape_26 : decode b_Lk_readTape 26 = .ok (.invokevirtual 289, 3) := by decide +kernel
theorem d_Lk_readTape_29 : decode b_Lk_readTape 29 = .ok (.istore_n 1, 1) := by decide +kernel
theorem d_Lk_readTape_30 : decode b_Lk_readTape 30 = .ok (.aload_n 0, 1) := by decide +kernel
theorem d_Lk_readTape_31 : decode b_Lk_readTape 31 = .ok (.getfield 18, 3) := by decide +kernel
theorem d_Lk_readTape_34 : decode b_Lk_readTape 34 = .ok (.iconst 0, 1) := by decide +kernel
theorem d_Lk_readTape_35 : decode b_Lk_readTape 35 = .ok (.putfield 110, 3) := by decide +kernel
theorem d_Lk_readTape_38 : decode b_Lk_readTape 38 = .ok (.iload_n 1, 1) := by decide +kernel
theorem d_Lk_readTape_39 : decode b_Lk_readTape 39 = .ok (.iconst (-1), 1) := by decide +kernel
theorem d_Lk_readTape_40 : decode b_Lk_readTape 40 = .ok (.if_icmp .eq 15, 3) := by decide +kernel
theorem d_Lk_readTape_43 : decode b_Lk_readTape 43 = .ok (.aload_n 0, 1) := by decide +kernel
theorem d_Lk_readTape_44 : decode b_Lk_readTape 44 = .ok (.getfield 61, 3) := by decide +kernel
theorem d_Lk_readTape_47 : decode b_Lk_readTape 47 = .ok (.aload_n 0, 1) := by decide +kernel
theorem d_Lk_readTape_48 : decode b_Lk_readTape 48 = .ok (.getfield 18, 3) := by decide +kernel
theorem d_Lk_readTape_51 : decode b_Lk_readTape 51 = .ok (.iload_n 1, 1) := by decide +kernel
theorem d_Lk_readTape_52 : decode b_Lk_readTape 52 = .ok (.invokevirtual 292, 3) := by decide +kernel
theorem d_Lk_readTape_55 : decode b_Lk_readTape 55 = .ok (.aload_n 0, 1) := by decide +kernel
theorem d_Lk_readTape_56 : decode b_Lk_readTape 56 = .ok (.aload_n 0, 1) := by decide +kernel
theorem d_Lk_readTape_57 : decode b_Lk_readTape 57 = .ok (.getfield 52, 3) := by decide +kernel
theorem d_Lk_readTape_60 : decode b_Lk_readTape 60 = .ok (.getfield 296, 3) := by decide +kernel
theorem d_Lk_readTape_63 : decode b_Lk_readTape 63 = .ok (.putfield 102, 3) := by decide +kernel
theorem d_Lk_readTape_66 : decode b_Lk_readTape 66 = .ok (.iload_n 1, 1) := by decide +kernel
theorem d_Lk_readTape_67 : decode b_Lk_readTape 67 = .ok (.ireturn, 1) := by decide +kernel
