/-! names: methods, their instructions, words -/
theorem mw_1829 : Cond.code ⟨"RecordLakeModel", "feed", "(IIIII)I"⟩ prog_14_method_6_code 6 (some .int) ∈ gW := gw_of (List.mem_of_getElem? (i := 1829) (by decide +kernel)) (by decide +kernel)
theorem mw_1834 : Cond.methodLink "RecordLakeModel" 91 ⟨"RecordLakeModel", "addInt", "(I)V"⟩ ∈ gW := gw_of (List.mem_of_getElem? (i := 1834) (by decide +kernel)) (by decide +kernel)
theorem mw_1836 : Cond.instanceMethod ⟨"RecordLakeModel", "addInt", "(I)V"⟩ ∈ gW := gw_of (List.mem_of_getElem? (i := 1836) (by decide +kernel)) (by decide +kernel)
theorem mw_1837 : Cond.code ⟨"RecordLakeModel", "addInt", "(I)V"⟩ prog_14_method_5_code 3 none ∈ gW := gw_of (List.mem_of_getElem? (i := 1837) (by decide +kernel)) (by decide +kernel)
theorem ms_97 : Cond.selects "RecordLakeModel" ⟨"RecordLakeModel", "addInt", "(I)V"⟩ ⟨"RecordLakeModel", "addInt", "(I)V"⟩ ∈ gW := gw_sel (List.mem_of_getElem? (i := 97) (by decide +kernel)) (by decide +kernel)
abbrev b_Mo_addInt : ByteArray := prog_14_method_5_code
abbrev y_Mo_addInt : MethodName := ⟨"RecordLakeModel", "addInt", "(I)V"⟩
abbrev w_Mo_addInt : List Cond := Cond.code y_Mo_addInt b_Mo_addInt 3 none :: gW
theorem d_Mo_addInt_0 : decode b_Mo_addInt 0 = .ok (.bipush 24, 2) := by decide +kernel
theorem d_Mo_addInt_2 : decode b_Mo_addInt 2 = .ok (.istore_n 2, 1) := by decide +kernel
theorem d_Mo_addInt_3 : decode b_Mo_addInt 3 = .ok (.iload_n 2, 1) := by decide +kernel
theorem d_Mo_addInt_4 : decode b_Mo_addInt 4 = .ok (.ifCond .lt 32, 3) := by decide +kernel
theorem d_Mo_addInt_7 : decode b_Mo_addInt 7 = .ok (.aload_n 0, 1) := by decide +kernel
theorem d_Mo_addInt_8 : decode b_Mo_addInt 8 = .ok (.getfield 7, 3) := by decide +kernel
theorem d_Mo_addInt_11 : decode b_Mo_addInt 11 = .ok (.aload_n 0, 1) := by decide +kernel
theorem d_Mo_addInt_12 : decode b_Mo_addInt 12 = .ok (.getfield 84, 3) := by decide +kernel
theorem d_Mo_addInt_15 : decode b_Mo_addInt 15 = .ok (.iload_n 1, 1) := by decide +kernel
theorem d_Mo_addInt_16 : decode b_Mo_addInt 16 = .ok (.iload_n 2, 1) := by decide +kernel
theorem d_Mo_addInt_17 : decode b_Mo_addInt 17 = .ok (.ishr, 1) := by decide +kernel
theorem d_Mo_addInt_18 : decode b_Mo_addInt 18 = .ok (.i2b, 1) := by decide +kernel
theorem d_Mo_addInt_19 : decode b_Mo_addInt 19 = .ok (.bastore, 1) := by decide +kernel
theorem d_Mo_addInt_20 : decode b_Mo_addInt 20 = .ok (.aload_n 0, 1) := by decide +kernel
theorem d_Mo_addInt_21 : decode b_Mo_addInt 21 = .ok (.dup, 1) := by decide +kernel
theorem d_Mo_addInt_22 : decode b_Mo_addInt 22 = .ok (.getfield 84, 3) := by decide +kernel
theorem d_Mo_addInt_25 : decode b_Mo_addInt 25 = .ok (.iconst 1, 1) := by decide +kernel
theorem d_Mo_addInt_26 : decode b_Mo_addInt 26 = .ok (.iadd, 1) := by decide +kernel
theorem d_Mo_addInt_27 : decode b_Mo_addInt 27 = .ok (.putfield 84, 3) := by decide +kernel
theorem d_Mo_addInt_30 : decode b_Mo_addInt 30 = .ok (.iinc 2 (-8), 3) := by decide +kernel
theorem d_Mo_addInt_33 : decode b_Mo_addInt 33 = .ok (.goto (-30), 3) := by decide +kernel
theorem d_Mo_addInt_36 : decode b_Mo_addInt 36 = .ok (.return_, 1) := by decide +kernel
abbrev b_Mo_feed : ByteArray := prog_14_method_6_code
abbrev y_Mo_feed : MethodName := ⟨"RecordLakeModel", "feed", "(IIIII)I"⟩
abbrev w_Mo_feed : List Cond := Cond.code y_Mo_feed b_Mo_feed 6 (some .int) :: gW
theorem d_Mo_feed_0 : decode b_Mo_feed 0 = .ok (.aload_n 0, 1) := by decide +kernel
theorem d_Mo_feed_1 : decode b_Mo_feed 1 = .ok (.aload_n 0, 1) := by decide +kernel
theorem d_Mo_feed_2 : decode b_Mo_feed 2 = .ok (.getfield 84, 3) := by decide +kernel
theorem d_Mo_feed_5 : decode b_Mo_feed 5 = .ok (.bipush 20, 2) := by decide +kernel
theorem d_Mo_feed_7 : decode b_Mo_feed 7 = .ok (.iadd, 1) := by decide +kernel
theorem d_Mo_feed_8 : decode b_Mo_feed 8 = .ok (.sipush 4096, 3) := by decide +kernel
theorem d_Mo_feed_11 : decode b_Mo_feed 11 = .ok (.if_icmp .le 7, 3) := by decide +kernel
theorem d_Mo_feed_14 : decode b_Mo_feed 14 = .ok (.iconst 1, 1) := by decide +kernel
theorem d_Mo_feed_15 : decode b_Mo_feed 15 = .ok (.goto 4, 3) := by decide +kernel
theorem d_Mo_feed_18 : decode b_Mo_feed 18 = .ok (.iconst 0, 1) := by decide +kernel
theorem d_Mo_feed_19 : decode b_Mo_feed 19 = .ok (.iconst 0, 1) := by decide +kernel
theorem d_Mo_feed_20 : decode b_Mo_feed 20 = .ok (.invokevirtual 87, 3) := by decide +kernel
theorem d_Mo_feed_23 : decode b_Mo_feed 23 = .ok (.ifCond .eq 5, 3) := by decide +kernel
theorem d_Mo_feed_26 : decode b_Mo_feed 26 = .ok (.iconst 0, 1) := by decide +kernel
theorem d_Mo_feed_27 : decode b_Mo_feed 27 = .ok (.ireturn, 1) := by decide +kernel
theorem d_Mo_feed_28 : decode b_Mo_feed 28 = .ok (.aload_n 0, 1) := by decide +kernel
theorem d_Mo_feed_29 : decode b_Mo_feed 29 = .ok (.iload_n 1, 1) := by decide +kernel
theorem d_Mo_feed_30 : decode b_Mo_feed 30 = .ok (.invokevirtual 91, 3) := by decide +kernel
theorem d_Mo_feed_33 : decode b_Mo_feed 33 = .ok (.aload_n 0, 1) := by decide +kernel
theorem d_Mo_feed_34 : decode b_Mo_feed 34 = .ok (.iload_n 2, 1) := by decide +kernel
theorem d_Mo_feed_35 : decode b_Mo_feed 35 = .ok (.invokevirtual 91, 3) := by decide +kernel
theorem d_Mo_feed_38 : decode b_Mo_feed 38 = .ok (.aload_n 0, 1) := by decide +kernel
theorem d_Mo_feed_39 : decode b_Mo_feed 39 = .ok (.iload_n 3, 1) := by decide +kernel
theorem d_Mo_feed_40 : decode b_Mo_feed 40 = .ok (.invokevirtual 91, 3) := by decide +kernel
theorem d_Mo_feed_43 : decode b_Mo_feed 43 = .ok (.aload_n 0, 1) := by decide +kernel
theorem d_Mo_feed_44 : decode b_Mo_feed 44 = .ok (.iload 4, 2) := by decide +kernel
theorem d_Mo_feed_46 : decode b_Mo_feed 46 = .ok (.invokevirtual 91, 3) := by decide +kernel
theorem d_Mo_feed_49 : decode b_Mo_feed 49 = .ok (.aload_n 0, 1) := by decide +kernel
theorem d_Mo_feed_50 : decode b_Mo_feed 50 = .ok (.iload 5, 2) := by decide +kernel
theorem d_Mo_feed_52 : decode b_Mo_feed 52 = .ok (.invokevirtual 91, 3) := by decide +kernel
theorem d_Mo_feed_55 : decode b_Mo_feed 55 = .ok (.aload_n 0, 1) := by decide +kernel
theorem d_Mo_feed_56 : decode b_Mo_feed 56 = .ok (.getfield 84, 3) := by decide +kernel
theorem d_Mo_feed_59 : decode b_Mo_feed 59 = .ok (.ireturn, 1) := by decide +kernel
