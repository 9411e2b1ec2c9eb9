/-! names: methods, their instructions, words -/
theorem mw_18 : Cond.initialized "java/lang/IllegalStateException" ∈ gW := gw_of (List.mem_of_getElem? (i := 18) (by decide +kernel)) (by decide +kernel)
theorem mw_434 : Cond.fieldLink "RecordLake" 263 "RecordLake$Disk" "untilLoss" "I" ∈ gW := gw_of (List.mem_of_getElem? (i := 434) (by decide +kernel)) (by decide +kernel)
theorem mw_459 : Cond.fieldLink "RecordLake" 196 "RecordLake$FileList" "length" "I" ∈ gW := gw_of (List.mem_of_getElem? (i := 459) (by decide +kernel)) (by decide +kernel)
theorem mw_965 : Cond.code ⟨"RecordLake", "files", "()I"⟩ prog_1_method_19_code 1 (some .int) ∈ gW := gw_of (List.mem_of_getElem? (i := 965) (by decide +kernel)) (by decide +kernel)
theorem mw_973 : Cond.code ⟨"RecordLake", "feed", "(IIIII)I"⟩ prog_1_method_2_code 6 (some .int) ∈ gW := gw_of (List.mem_of_getElem? (i := 973) (by decide +kernel)) (by decide +kernel)
theorem mw_974 : Cond.classLink "RecordLake" 113 "java/lang/IllegalStateException" ∈ gW := gw_of (List.mem_of_getElem? (i := 974) (by decide +kernel)) (by decide +kernel)
theorem mw_1041 : Cond.methodLink "RecordLake" 120 ⟨"RecordLake$Bytes", "putNumber", "(JI)V"⟩ ∈ gW := gw_of (List.mem_of_getElem? (i := 1041) (by decide +kernel)) (by decide +kernel)
theorem mw_1042 : Cond.instanceMethod ⟨"RecordLake$Bytes", "putNumber", "(JI)V"⟩ ∈ gW := gw_of (List.mem_of_getElem? (i := 1042) (by decide +kernel)) (by decide +kernel)
theorem mw_1043 : Cond.selects "RecordLake$Bytes" ⟨"RecordLake$Bytes", "putNumber", "(JI)V"⟩ ⟨"RecordLake$Bytes", "putNumber", "(JI)V"⟩ ∈ gW := gw_of (List.mem_of_getElem? (i := 1043) (by decide +kernel)) (by decide +kernel)
theorem mw_1547 : Cond.code ⟨"RecordLake", "power", "(I)V"⟩ prog_1_method_20_code 2 none ∈ gW := gw_of (List.mem_of_getElem? (i := 1547) (by decide +kernel)) (by decide +kernel)
theorem mw_1555 : Cond.code ⟨"RecordLake", "start", "()I"⟩ prog_1_method_21_code 2 (some .int) ∈ gW := gw_of (List.mem_of_getElem? (i := 1555) (by decide +kernel)) (by decide +kernel)
abbrev b_Lk_feed : ByteArray := prog_1_method_2_code
abbrev y_Lk_feed : MethodName := ⟨"RecordLake", "feed", "(IIIII)I"⟩
abbrev w_Lk_feed : List Cond := Cond.code y_Lk_feed b_Lk_feed 6 (some .int) :: gW
theorem d_Lk_feed_0 : decode b_Lk_feed 0 = .ok (.aload_n 0, 1) := by decide +kernel
theorem d_Lk_feed_1 : decode b_Lk_feed 1 = .ok (.getfield 14, 3) := by decide +kernel
theorem d_Lk_feed_4 : decode b_Lk_feed 4 = .ok (.getfield 110, 3) := by decide +kernel
theorem d_Lk_feed_7 : decode b_Lk_feed 7 = .ok (.sipush 4076, 3) := by decide +kernel
theorem d_Lk_feed_10 : decode b_Lk_feed 10 = .ok (.if_icmp .le 13, 3) := by decide +kernel
theorem d_Lk_feed_13 : decode b_Lk_feed 13 = .ok (.new 113, 3) := by decide +kernel
theorem d_Lk_feed_16 : decode b_Lk_feed 16 = .ok (.dup, 1) := by decide +kernel
theorem d_Lk_feed_17 : decode b_Lk_feed 17 = .ok (.ldc 115, 2) := by decide +kernel
theorem d_Lk_feed_19 : decode b_Lk_feed 19 = .ok (.invokespecial 117, 3) := by decide +kernel
theorem d_Lk_feed_22 : decode b_Lk_feed 22 = .ok (.athrow, 1) := by decide +kernel
theorem d_Lk_feed_23 : decode b_Lk_feed 23 = .ok (.aload_n 0, 1) := by decide +kernel
theorem d_Lk_feed_24 : decode b_Lk_feed 24 = .ok (.getfield 14, 3) := by decide +kernel
theorem d_Lk_feed_27 : decode b_Lk_feed 27 = .ok (.iload_n 1, 1) := by decide +kernel
theorem d_Lk_feed_28 : decode b_Lk_feed 28 = .ok (.i2l, 1) := by decide +kernel
theorem d_Lk_feed_29 : decode b_Lk_feed 29 = .ok (.iconst 4, 1) := by decide +kernel
theorem d_Lk_feed_30 : decode b_Lk_feed 30 = .ok (.invokevirtual 120, 3) := by decide +kernel
theorem d_Lk_feed_33 : decode b_Lk_feed 33 = .ok (.aload_n 0, 1) := by decide +kernel
theorem d_Lk_feed_34 : decode b_Lk_feed 34 = .ok (.getfield 14, 3) := by decide +kernel
theorem d_Lk_feed_37 : decode b_Lk_feed 37 = .ok (.iload_n 2, 1) := by decide +kernel
theorem d_Lk_feed_38 : decode b_Lk_feed 38 = .ok (.i2l, 1) := by decide +kernel
theorem d_Lk_feed_39 : decode b_Lk_feed 39 = .ok (.iconst 4, 1) := by decide +kernel
theorem d_Lk_feed_40 : decode b_Lk_feed 40 = .ok (.invokevirtual 120, 3) := by decide +kernel
theorem d_Lk_feed_43 : decode b_Lk_feed 43 = .ok (.aload_n 0, 1) := by decide +kernel
theorem d_Lk_feed_44 : decode b_Lk_feed 44 = .ok (.getfield 14, 3) := by decide +kernel
theorem d_Lk_feed_47 : decode b_Lk_feed 47 = .ok (.iload_n 3, 1) := by decide +kernel
theorem d_Lk_feed_48 : decode b_Lk_feed 48 = .ok (.i2l, 1) := by decide +kernel
theorem d_Lk_feed_49 : decode b_Lk_feed 49 = .ok (.iconst 4, 1) := by decide +kernel
theorem d_Lk_feed_50 : decode b_Lk_feed 50 = .ok (.invokevirtual 120, 3) := by decide +kernel
theorem d_Lk_feed_53 : decode b_Lk_feed 53 = .ok (.aload_n 0, 1) := by decide +kernel
theorem d_Lk_feed_54 : decode b_Lk_feed 54 = .ok (.getfield 14, 3) := by decide +kernel
theorem d_Lk_feed_57 : decode b_Lk_feed 57 = .ok (.iload 4, 2) := by decide +kernel
theorem d_Lk_feed_59 : decode b_Lk_feed 59 = .ok (.i2l, 1) := by decide +kernel
theorem d_Lk_feed_60 : decode b_Lk_feed 60 = .ok (.iconst 4, 1) := by decide +kernel
theorem d_Lk_feed_61 : decode b_Lk_feed 61 = .ok (.invokevirtual 120, 3) := by decide +kernel
theorem d_Lk_feed_64 : decode b_Lk_feed 64 = .ok (.aload_n 0, 1) := by decide +kernel
theorem d_Lk_feed_65 : decode b_Lk_feed 65 = .ok (.getfield 14, 3) := by decide +kernel
theorem d_Lk_feed_68 : decode b_Lk_feed 68 = .ok (.iload 5, 2) := by decide +kernel
theorem d_Lk_feed_70 : decode b_Lk_feed 70 = .ok (.i2l, 1) := by decide +kernel
theorem d_Lk_feed_71 : decode b_Lk_feed 71 = .ok (.iconst 4, 1) := by decide +kernel
theorem d_Lk_feed_72 : decode b_Lk_feed 72 = .ok (.invokevirtual 120, 3) := by decide +kernel
theorem d_Lk_feed_75 : decode b_Lk_feed 75 = .ok (.aload_n 0, 1) := by decide +kernel
theorem d_Lk_feed_76 : decode b_Lk_feed 76 = .ok (.getfield 14, 3) := by decide +kernel
theorem d_Lk_feed_79 : decode b_Lk_feed 79 = .ok (.getfield 110, 3) := by decide +kernel
theorem d_Lk_feed_82 : decode b_Lk_feed 82 = .ok (.ireturn, 1) := by decide +kernel
abbrev b_Lk_files : ByteArray := prog_1_method_19_code
abbrev y_Lk_files : MethodName := ⟨"RecordLake", "files", "()I"⟩
abbrev w_Lk_files : List Cond := Cond.code y_Lk_files b_Lk_files 1 (some .int) :: gW
theorem d_Lk_files_0 : decode b_Lk_files 0 = .ok (.aload_n 0, 1) := by decide +kernel
theorem d_Lk_files_1 : decode b_Lk_files 1 = .ok (.getfield 106, 3) := by decide +kernel
theorem d_Lk_files_4 : decode b_Lk_files 4 = .ok (.ifCond .eq 8, 3) := by decide +kernel
theorem d_Lk_files_7 : decode b_Lk_files 7 = .ok (.bipush (-33), 2) := by decide +kernel
theorem d_Lk_files_9 : decode b_Lk_files 9 = .ok (.goto 10, 3) := by decide +kernel
theorem d_Lk_files_12 : decode b_Lk_files 12 = .ok (.aload_n 0, 1) := by decide +kernel
theorem d_Lk_files_13 : decode b_Lk_files 13 = .ok (.getfield 98, 3) := by decide +kernel
theorem d_Lk_files_16 : decode b_Lk_files 16 = .ok (.getfield 196, 3) := by decide +kernel
theorem d_Lk_files_19 : decode b_Lk_files 19 = .ok (.ireturn, 1) := by decide +kernel
abbrev b_Lk_power : ByteArray := prog_1_method_20_code
abbrev y_Lk_power : MethodName := ⟨"RecordLake", "power", "(I)V"⟩
abbrev w_Lk_power : List Cond := Cond.code y_Lk_power b_Lk_power 2 none :: gW
theorem d_Lk_power_0 : decode b_Lk_power 0 = .ok (.iload_n 1, 1) := by decide +kernel
theorem d_Lk_power_1 : decode b_Lk_power 1 = .ok (.iconst (-1), 1) := by decide +kernel
theorem d_Lk_power_2 : decode b_Lk_power 2 = .ok (.if_icmp .lt 10, 3) := by decide +kernel
theorem d_Lk_power_5 : decode b_Lk_power 5 = .ok (.iload_n 1, 1) := by decide +kernel
theorem d_Lk_power_6 : decode b_Lk_power 6 = .ok (.sipush 1000, 3) := by decide +kernel
theorem d_Lk_power_9 : decode b_Lk_power 9 = .ok (.if_icmp .le 14, 3) := by decide +kernel
theorem d_Lk_power_12 : decode b_Lk_power 12 = .ok (.new 124, 3) := by decide +kernel
theorem d_Lk_power_15 : decode b_Lk_power 15 = .ok (.dup, 1) := by decide +kernel
theorem d_Lk_power_16 : decode b_Lk_power 16 = .ok (.ldc_w 261, 3) := by decide +kernel
theorem d_Lk_power_19 : decode b_Lk_power 19 = .ok (.invokespecial 128, 3) := by decide +kernel
theorem d_Lk_power_22 : decode b_Lk_power 22 = .ok (.athrow, 1) := by decide +kernel
theorem d_Lk_power_23 : decode b_Lk_power 23 = .ok (.aload_n 0, 1) := by decide +kernel
theorem d_Lk_power_24 : decode b_Lk_power 24 = .ok (.getfield 91, 3) := by decide +kernel
theorem d_Lk_power_27 : decode b_Lk_power 27 = .ok (.iload_n 1, 1) := by decide +kernel
theorem d_Lk_power_28 : decode b_Lk_power 28 = .ok (.putfield 263, 3) := by decide +kernel
theorem d_Lk_power_31 : decode b_Lk_power 31 = .ok (.return_, 1) := by decide +kernel
abbrev b_Lk_start : ByteArray := prog_1_method_21_code
abbrev y_Lk_start : MethodName := ⟨"RecordLake", "start", "()I"⟩
abbrev w_Lk_start : List Cond := Cond.code y_Lk_start b_Lk_start 2 (some .int) :: gW
theorem d_Lk_start_0 : decode b_Lk_start 0 = .ok (.aload_n 0, 1) := by decide +kernel
theorem d_Lk_start_1 : decode b_Lk_start 1 = .ok (.getfield 106, 3) := by decide +kernel
theorem d_Lk_start_4 : decode b_Lk_start 4 = .ok (.ifCond .ne 14, 3) := by decide +kernel
theorem d_Lk_start_7 : decode b_Lk_start 7 = .ok (.new 113, 3) := by decide +kernel
theorem d_Lk_start_10 : decode b_Lk_start 10 = .ok (.dup, 1) := by decide +kernel
theorem d_Lk_start_11 : decode b_Lk_start 11 = .ok (.ldc_w 266, 3) := by decide +kernel
theorem d_Lk_start_14 : decode b_Lk_start 14 = .ok (.invokespecial 117, 3) := by decide +kernel
theorem d_Lk_start_17 : decode b_Lk_start 17 = .ok (.athrow, 1) := by decide +kernel
theorem d_Lk_start_18 : decode b_Lk_start 18 = .ok (.aload_n 0, 1) := by decide +kernel
theorem d_Lk_start_19 : decode b_Lk_start 19 = .ok (.getfield 98, 3) := by decide +kernel
theorem d_Lk_start_22 : decode b_Lk_start 22 = .ok (.aload_n 0, 1) := by decide +kernel
theorem d_Lk_start_23 : decode b_Lk_start 23 = .ok (.getfield 91, 3) := by decide +kernel
theorem d_Lk_start_26 : decode b_Lk_start 26 = .ok (.invokevirtual 268, 3) := by decide +kernel
theorem d_Lk_start_29 : decode b_Lk_start 29 = .ok (.iconst 0, 1) := by decide +kernel
theorem d_Lk_start_30 : decode b_Lk_start 30 = .ok (.istore_n 1, 1) := by decide +kernel
theorem d_Lk_start_31 : decode b_Lk_start 31 = .ok (.iload_n 1, 1) := by decide +kernel
theorem d_Lk_start_32 : decode b_Lk_start 32 = .ok (.aload_n 0, 1) := by decide +kernel
theorem d_Lk_start_33 : decode b_Lk_start 33 = .ok (.getfield 98, 3) := by decide +kernel
theorem d_Lk_start_36 : decode b_Lk_start 36 = .ok (.getfield 196, 3) := by decide +kernel
theorem d_Lk_start_39 : decode b_Lk_start 39 = .ok (.if_icmp .ge 27, 3) := by decide +kernel
theorem d_Lk_start_42 : decode b_Lk_start 42 = .ok (.aload_n 0, 1) := by decide +kernel
theorem d_Lk_start_43 : decode b_Lk_start 43 = .ok (.getfield 98, 3) := by decide +kernel
theorem d_Lk_start_46 : decode b_Lk_start 46 = .ok (.getfield 258, 3) := by decide +kernel
theorem d_Lk_start_49 : decode b_Lk_start 49 = .ok (.iload_n 1, 1) := by decide +kernel
theorem d_Lk_start_50 : decode b_Lk_start 50 = .ok (.iaload, 1) := by decide +kernel
theorem d_Lk_start_51 : decode b_Lk_start 51 = .ok (.iconst (-1), 1) := by decide +kernel
theorem d_Lk_start_52 : decode b_Lk_start 52 = .ok (.if_icmp .ne 8, 3) := by decide +kernel
theorem d_Lk_start_55 : decode b_Lk_start 55 = .ok (.aload_n 0, 1) := by decide +kernel
theorem d_Lk_start_56 : decode b_Lk_start 56 = .ok (.iload_n 1, 1) := by decide +kernel
theorem d_Lk_start_57 : decode b_Lk_start 57 = .ok (.invokevirtual 272, 3) := by decide +kernel
theorem d_Lk_start_60 : decode b_Lk_start 60 = .ok (.iinc 1 1, 3) := by decide +kernel
theorem d_Lk_start_63 : decode b_Lk_start 63 = .ok (.goto (-32), 3) := by decide +kernel
theorem d_Lk_start_66 : decode b_Lk_start 66 = .ok (.aload_n 0, 1) := by decide +kernel
theorem d_Lk_start_67 : decode b_Lk_start 67 = .ok (.iconst 0, 1) := by decide +kernel
theorem d_Lk_start_68 : decode b_Lk_start 68 = .ok (.putfield 106, 3) := by decide +kernel
theorem d_Lk_start_71 : decode b_Lk_start 71 = .ok (.aload_n 0, 1) := by decide +kernel
theorem d_Lk_start_72 : decode b_Lk_start 72 = .ok (.getfield 98, 3) := by decide +kernel
theorem d_Lk_start_75 : decode b_Lk_start 75 = .ok (.getfield 196, 3) := by decide +kernel
theorem d_Lk_start_78 : decode b_Lk_start 78 = .ok (.ireturn, 1) := by decide +kernel
