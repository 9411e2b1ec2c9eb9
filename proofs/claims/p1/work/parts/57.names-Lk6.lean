/-! names: methods, their instructions, words -/
theorem mw_276 : Cond.fieldLink "RecordLake" 136 "RecordLake$SchemaReader" "fault" "I" ∈ gW := gw_of (List.mem_of_getElem? (i := 276) (by decide +kernel)) (by decide +kernel)
theorem mw_538 : Cond.code ⟨"RecordLake", "schema", "()I"⟩ prog_1_method_4_code 1 (some .int) ∈ gW := gw_of (List.mem_of_getElem? (i := 538) (by decide +kernel)) (by decide +kernel)
theorem mw_539 : Cond.methodLink "RecordLake" 129 ⟨"RecordLake", "readTape", "()I"⟩ ∈ gW := gw_of (List.mem_of_getElem? (i := 539) (by decide +kernel)) (by decide +kernel)
theorem mw_541 : Cond.instanceMethod ⟨"RecordLake", "readTape", "()I"⟩ ∈ gW := gw_of (List.mem_of_getElem? (i := 541) (by decide +kernel)) (by decide +kernel)
theorem mw_954 : Cond.methodLink "RecordLake" 133 ⟨"RecordLake$Schemas", "drop", "()V"⟩ ∈ gW := gw_of (List.mem_of_getElem? (i := 954) (by decide +kernel)) (by decide +kernel)
theorem mw_955 : Cond.instanceMethod ⟨"RecordLake$Schemas", "drop", "()V"⟩ ∈ gW := gw_of (List.mem_of_getElem? (i := 955) (by decide +kernel)) (by decide +kernel)
theorem mw_956 : Cond.selects "RecordLake$Schemas" ⟨"RecordLake$Schemas", "drop", "()V"⟩ ⟨"RecordLake$Schemas", "drop", "()V"⟩ ∈ gW := gw_of (List.mem_of_getElem? (i := 956) (by decide +kernel)) (by decide +kernel)
theorem ms_0 : Cond.selects "RecordLake" ⟨"RecordLake", "readTape", "()I"⟩ ⟨"RecordLake", "readTape", "()I"⟩ ∈ gW := gw_sel (List.mem_of_getElem? (i := 0) (by decide +kernel)) (by decide +kernel)
abbrev b_Lk_schema : ByteArray := prog_1_method_4_code
abbrev y_Lk_schema : MethodName := ⟨"RecordLake", "schema", "()I"⟩
abbrev w_Lk_schema : List Cond := Cond.code y_Lk_schema b_Lk_schema 1 (some .int) :: gW
theorem d_Lk_schema_0 : decode b_Lk_schema 0 = .ok (.aload_n 0, 1) := by decide +kernel
theorem d_Lk_schema_1 : decode b_Lk_schema 1 = .ok (.invokevirtual 129, 3) := by decide +kernel
theorem d_Lk_schema_4 : decode b_Lk_schema 4 = .ok (.pop, 1) := by decide +kernel
theorem d_Lk_schema_5 : decode b_Lk_schema 5 = .ok (.aload_n 0, 1) := by decide +kernel
theorem d_Lk_schema_6 : decode b_Lk_schema 6 = .ok (.getfield 43, 3) := by decide +kernel
theorem d_Lk_schema_9 : decode b_Lk_schema 9 = .ok (.invokevirtual 133, 3) := by decide +kernel
theorem d_Lk_schema_12 : decode b_Lk_schema 12 = .ok (.aload_n 0, 1) := by decide +kernel
theorem d_Lk_schema_13 : decode b_Lk_schema 13 = .ok (.getfield 52, 3) := by decide +kernel
theorem d_Lk_schema_16 : decode b_Lk_schema 16 = .ok (.getfield 136, 3) := by decide +kernel
theorem d_Lk_schema_19 : decode b_Lk_schema 19 = .ok (.ireturn, 1) := by decide +kernel
