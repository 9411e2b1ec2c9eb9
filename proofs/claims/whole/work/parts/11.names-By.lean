/-! names: methods, their instructions, words -/
theorem mw_42 : Cond.fieldLink "RecordLake$Bytes" 9 "RecordLake$Bytes" "row" "[B" ∈ gW := gw_of (List.mem_of_getElem? (i := 42) (by decide +kernel)) (by decide +kernel)
theorem mw_50 : Cond.fieldLink "RecordLake$Bytes" 15 "RecordLake$Bytes" "length" "I" ∈ gW := gw_of (List.mem_of_getElem? (i := 50) (by decide +kernel)) (by decide +kernel)
theorem mw_603 : Cond.code ⟨"RecordLake$Bytes", "put", "(I)Z"⟩ prog_2_method_3_code 2 (some .boolean) ∈ gW := gw_of (List.mem_of_getElem? (i := 603) (by decide +kernel)) (by decide +kernel)
theorem mw_792 : Cond.code ⟨"RecordLake$Bytes", "at", "(I)I"⟩ prog_2_method_2_code 2 (some .int) ∈ gW := gw_of (List.mem_of_getElem? (i := 792) (by decide +kernel)) (by decide +kernel)
abbrev b_By_put : ByteArray := prog_2_method_3_code
abbrev y_By_put : MethodName := ⟨"RecordLake$Bytes", "put", "(I)Z"⟩
abbrev w_By_put : List Cond := Cond.code y_By_put b_By_put 2 (some .boolean) :: gW
theorem d_By_put_0 : decode b_By_put 0 = .ok (.aload_n 0, 1) := by decide +kernel
theorem d_By_put_1 : decode b_By_put 1 = .ok (.getfield 15, 3) := by decide +kernel
theorem d_By_put_4 : decode b_By_put 4 = .ok (.aload_n 0, 1) := by decide +kernel
theorem d_By_put_5 : decode b_By_put 5 = .ok (.getfield 9, 3) := by decide +kernel
theorem d_By_put_8 : decode b_By_put 8 = .ok (.arraylength, 1) := by decide +kernel
theorem d_By_put_9 : decode b_By_put 9 = .ok (.if_icmp .lt 5, 3) := by decide +kernel
theorem d_By_put_12 : decode b_By_put 12 = .ok (.iconst 0, 1) := by decide +kernel
theorem d_By_put_13 : decode b_By_put 13 = .ok (.ireturn, 1) := by decide +kernel
theorem d_By_put_14 : decode b_By_put 14 = .ok (.aload_n 0, 1) := by decide +kernel
theorem d_By_put_15 : decode b_By_put 15 = .ok (.getfield 9, 3) := by decide +kernel
theorem d_By_put_18 : decode b_By_put 18 = .ok (.aload_n 0, 1) := by decide +kernel
theorem d_By_put_19 : decode b_By_put 19 = .ok (.getfield 15, 3) := by decide +kernel
theorem d_By_put_22 : decode b_By_put 22 = .ok (.iload_n 1, 1) := by decide +kernel
theorem d_By_put_23 : decode b_By_put 23 = .ok (.i2b, 1) := by decide +kernel
theorem d_By_put_24 : decode b_By_put 24 = .ok (.bastore, 1) := by decide +kernel
theorem d_By_put_25 : decode b_By_put 25 = .ok (.aload_n 0, 1) := by decide +kernel
theorem d_By_put_26 : decode b_By_put 26 = .ok (.dup, 1) := by decide +kernel
theorem d_By_put_27 : decode b_By_put 27 = .ok (.getfield 15, 3) := by decide +kernel
theorem d_By_put_30 : decode b_By_put 30 = .ok (.iconst 1, 1) := by decide +kernel
theorem d_By_put_31 : decode b_By_put 31 = .ok (.iadd, 1) := by decide +kernel
theorem d_By_put_32 : decode b_By_put 32 = .ok (.putfield 15, 3) := by decide +kernel
theorem d_By_put_35 : decode b_By_put 35 = .ok (.iconst 1, 1) := by decide +kernel
theorem d_By_put_36 : decode b_By_put 36 = .ok (.ireturn, 1) := by decide +kernel
abbrev b_By_at : ByteArray := prog_2_method_2_code
abbrev y_By_at : MethodName := ⟨"RecordLake$Bytes", "at", "(I)I"⟩
abbrev w_By_at : List Cond := Cond.code y_By_at b_By_at 2 (some .int) :: gW
theorem d_By_at_0 : decode b_By_at 0 = .ok (.iload_n 1, 1) := by decide +kernel
theorem d_By_at_1 : decode b_By_at 1 = .ok (.ifCond .lt 11, 3) := by decide +kernel
theorem d_By_at_4 : decode b_By_at 4 = .ok (.iload_n 1, 1) := by decide +kernel
theorem d_By_at_5 : decode b_By_at 5 = .ok (.aload_n 0, 1) := by decide +kernel
theorem d_By_at_6 : decode b_By_at 6 = .ok (.getfield 15, 3) := by decide +kernel
theorem d_By_at_9 : decode b_By_at 9 = .ok (.if_icmp .lt 7, 3) := by decide +kernel
theorem d_By_at_12 : decode b_By_at 12 = .ok (.iconst (-1), 1) := by decide +kernel
theorem d_By_at_13 : decode b_By_at 13 = .ok (.goto 13, 3) := by decide +kernel
theorem d_By_at_16 : decode b_By_at 16 = .ok (.aload_n 0, 1) := by decide +kernel
theorem d_By_at_17 : decode b_By_at 17 = .ok (.getfield 9, 3) := by decide +kernel
theorem d_By_at_20 : decode b_By_at 20 = .ok (.iload_n 1, 1) := by decide +kernel
theorem d_By_at_21 : decode b_By_at 21 = .ok (.baload, 1) := by decide +kernel
theorem d_By_at_22 : decode b_By_at 22 = .ok (.sipush 255, 3) := by decide +kernel
theorem d_By_at_25 : decode b_By_at 25 = .ok (.iand, 1) := by decide +kernel
theorem d_By_at_26 : decode b_By_at 26 = .ok (.ireturn, 1) := by decide +kernel
