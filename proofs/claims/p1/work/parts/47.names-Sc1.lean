/-! names: methods, their instructions, words -/
theorem mw_56 : Cond.fieldLink "RecordLake$Schemas" 95 "RecordLake$Bytes" "length" "I" ∈ gW := gw_of (List.mem_of_getElem? (i := 56) (by decide +kernel)) (by decide +kernel)
theorem mw_207 : Cond.fieldLink "RecordLake$Schemas" 89 "RecordLake$Schemas" "partsUsed" "I" ∈ gW := gw_of (List.mem_of_getElem? (i := 207) (by decide +kernel)) (by decide +kernel)
theorem mw_208 : Cond.fieldLink "RecordLake$Schemas" 92 "RecordLake$Schemas" "basePart" "I" ∈ gW := gw_of (List.mem_of_getElem? (i := 208) (by decide +kernel)) (by decide +kernel)
theorem mw_209 : Cond.fieldLink "RecordLake$Schemas" 98 "RecordLake$Schemas" "basePool" "I" ∈ gW := gw_of (List.mem_of_getElem? (i := 209) (by decide +kernel)) (by decide +kernel)
theorem mw_263 : Cond.fieldLink "RecordLake$Defaults" 28 "RecordLake$Defaults" "waiting" "I" ∈ gW := gw_of (List.mem_of_getElem? (i := 263) (by decide +kernel)) (by decide +kernel)
theorem mw_695 : Cond.code ⟨"RecordLake$Schemas", "open", "()V"⟩ prog_10_method_3_code 1 none ∈ gW := gw_of (List.mem_of_getElem? (i := 695) (by decide +kernel)) (by decide +kernel)
theorem mw_699 : Cond.code ⟨"RecordLake$Defaults", "forget", "()V"⟩ prog_3_method_2_code 1 none ∈ gW := gw_of (List.mem_of_getElem? (i := 699) (by decide +kernel)) (by decide +kernel)
theorem mw_957 : Cond.code ⟨"RecordLake$Schemas", "drop", "()V"⟩ prog_10_method_4_code 1 none ∈ gW := gw_of (List.mem_of_getElem? (i := 957) (by decide +kernel)) (by decide +kernel)
abbrev b_Sc_open : ByteArray := prog_10_method_3_code
abbrev y_Sc_open : MethodName := ⟨"RecordLake$Schemas", "open", "()V"⟩
abbrev w_Sc_open : List Cond := Cond.code y_Sc_open b_Sc_open 1 none :: gW
theorem d_Sc_open_0 : decode b_Sc_open 0 = .ok (.aload_n 0, 1) := by decide +kernel
theorem d_Sc_open_1 : decode b_Sc_open 1 = .ok (.aload_n 0, 1) := by decide +kernel
theorem d_Sc_open_2 : decode b_Sc_open 2 = .ok (.getfield 58, 3) := by decide +kernel
theorem d_Sc_open_5 : decode b_Sc_open 5 = .ok (.putfield 62, 3) := by decide +kernel
theorem d_Sc_open_8 : decode b_Sc_open 8 = .ok (.aload_n 0, 1) := by decide +kernel
theorem d_Sc_open_9 : decode b_Sc_open 9 = .ok (.aload_n 0, 1) := by decide +kernel
theorem d_Sc_open_10 : decode b_Sc_open 10 = .ok (.getfield 89, 3) := by decide +kernel
theorem d_Sc_open_13 : decode b_Sc_open 13 = .ok (.putfield 92, 3) := by decide +kernel
theorem d_Sc_open_16 : decode b_Sc_open 16 = .ok (.aload_n 0, 1) := by decide +kernel
theorem d_Sc_open_17 : decode b_Sc_open 17 = .ok (.aload_n 0, 1) := by decide +kernel
theorem d_Sc_open_18 : decode b_Sc_open 18 = .ok (.getfield 45, 3) := by decide +kernel
theorem d_Sc_open_21 : decode b_Sc_open 21 = .ok (.getfield 95, 3) := by decide +kernel
theorem d_Sc_open_24 : decode b_Sc_open 24 = .ok (.putfield 98, 3) := by decide +kernel
theorem d_Sc_open_27 : decode b_Sc_open 27 = .ok (.return_, 1) := by decide +kernel
abbrev b_Sc_drop : ByteArray := prog_10_method_4_code
abbrev y_Sc_drop : MethodName := ⟨"RecordLake$Schemas", "drop", "()V"⟩
abbrev w_Sc_drop : List Cond := Cond.code y_Sc_drop b_Sc_drop 1 none :: gW
theorem d_Sc_drop_0 : decode b_Sc_drop 0 = .ok (.aload_n 0, 1) := by decide +kernel
theorem d_Sc_drop_1 : decode b_Sc_drop 1 = .ok (.aload_n 0, 1) := by decide +kernel
theorem d_Sc_drop_2 : decode b_Sc_drop 2 = .ok (.getfield 62, 3) := by decide +kernel
theorem d_Sc_drop_5 : decode b_Sc_drop 5 = .ok (.putfield 58, 3) := by decide +kernel
theorem d_Sc_drop_8 : decode b_Sc_drop 8 = .ok (.aload_n 0, 1) := by decide +kernel
theorem d_Sc_drop_9 : decode b_Sc_drop 9 = .ok (.aload_n 0, 1) := by decide +kernel
theorem d_Sc_drop_10 : decode b_Sc_drop 10 = .ok (.getfield 92, 3) := by decide +kernel
theorem d_Sc_drop_13 : decode b_Sc_drop 13 = .ok (.putfield 89, 3) := by decide +kernel
theorem d_Sc_drop_16 : decode b_Sc_drop 16 = .ok (.aload_n 0, 1) := by decide +kernel
theorem d_Sc_drop_17 : decode b_Sc_drop 17 = .ok (.getfield 45, 3) := by decide +kernel
theorem d_Sc_drop_20 : decode b_Sc_drop 20 = .ok (.aload_n 0, 1) := by decide +kernel
theorem d_Sc_drop_21 : decode b_Sc_drop 21 = .ok (.getfield 98, 3) := by decide +kernel
theorem d_Sc_drop_24 : decode b_Sc_drop 24 = .ok (.putfield 95, 3) := by decide +kernel
theorem d_Sc_drop_27 : decode b_Sc_drop 27 = .ok (.return_, 1) := by decide +kernel
abbrev b_Df_forget : ByteArray := prog_3_method_2_code
abbrev y_Df_forget : MethodName := ⟨"RecordLake$Defaults", "forget", "()V"⟩
abbrev w_Df_forget : List Cond := Cond.code y_Df_forget b_Df_forget 1 none :: gW
theorem d_Df_forget_0 : decode b_Df_forget 0 = .ok (.aload_n 0, 1) := by decide +kernel
theorem d_Df_forget_1 : decode b_Df_forget 1 = .ok (.iconst 0, 1) := by decide +kernel
theorem d_Df_forget_2 : decode b_Df_forget 2 = .ok (.putfield 28, 3) := by decide +kernel
theorem d_Df_forget_5 : decode b_Df_forget 5 = .ok (.return_, 1) := by decide +kernel
