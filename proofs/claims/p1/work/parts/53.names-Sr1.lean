/-! names: methods, their instructions, words -/
theorem mw_97 : Cond.fieldLink "RecordLake$SchemaReader" 46 "RecordLake$Text" "root" "I" ∈ gW := gw_of (List.mem_of_getElem? (i := 97) (by decide +kernel)) (by decide +kernel)
theorem mw_102 : Cond.fieldLink "RecordLake$SchemaReader" 51 "RecordLake$Text" "place" "I" ∈ gW := gw_of (List.mem_of_getElem? (i := 102) (by decide +kernel)) (by decide +kernel)
theorem mw_282 : Cond.fieldLink "RecordLake$SchemaReader" 43 "RecordLake$SchemaReader" "lookedAt" "I" ∈ gW := gw_of (List.mem_of_getElem? (i := 282) (by decide +kernel)) (by decide +kernel)
theorem mw_691 : Cond.code ⟨"RecordLake$SchemaReader", "readSchema", "()I"⟩ prog_9_method_2_code 3 (some .int) ∈ gW := gw_of (List.mem_of_getElem? (i := 691) (by decide +kernel)) (by decide +kernel)
theorem mw_692 : Cond.methodLink "RecordLake$SchemaReader" 35 ⟨"RecordLake$Schemas", "open", "()V"⟩ ∈ gW := gw_of (List.mem_of_getElem? (i := 692) (by decide +kernel)) (by decide +kernel)
theorem mw_693 : Cond.instanceMethod ⟨"RecordLake$Schemas", "open", "()V"⟩ ∈ gW := gw_of (List.mem_of_getElem? (i := 693) (by decide +kernel)) (by decide +kernel)
theorem mw_694 : Cond.selects "RecordLake$Schemas" ⟨"RecordLake$Schemas", "open", "()V"⟩ ⟨"RecordLake$Schemas", "open", "()V"⟩ ∈ gW := gw_of (List.mem_of_getElem? (i := 694) (by decide +kernel)) (by decide +kernel)
theorem mw_696 : Cond.methodLink "RecordLake$SchemaReader" 40 ⟨"RecordLake$Defaults", "forget", "()V"⟩ ∈ gW := gw_of (List.mem_of_getElem? (i := 696) (by decide +kernel)) (by decide +kernel)
theorem mw_697 : Cond.instanceMethod ⟨"RecordLake$Defaults", "forget", "()V"⟩ ∈ gW := gw_of (List.mem_of_getElem? (i := 697) (by decide +kernel)) (by decide +kernel)
theorem mw_698 : Cond.selects "RecordLake$Defaults" ⟨"RecordLake$Defaults", "forget", "()V"⟩ ⟨"RecordLake$Defaults", "forget", "()V"⟩ ∈ gW := gw_of (List.mem_of_getElem? (i := 698) (by decide +kernel)) (by decide +kernel)
abbrev b_Sr_readSchema : ByteArray := prog_9_method_2_code
abbrev y_Sr_readSchema : MethodName := ⟨"RecordLake$SchemaReader", "readSchema", "()I"⟩
abbrev w_Sr_readSchema : List Cond := Cond.code y_Sr_readSchema b_Sr_readSchema 3 (some .int) :: gW
theorem d_Sr_readSchema_0 : decode b_Sr_readSchema 0 = .ok (.aload_n 0, 1) := by decide +kernel
theorem d_Sr_readSchema_1 : decode b_Sr_readSchema 1 = .ok (.getfield 15, 3) := by decide +kernel
theorem d_Sr_readSchema_4 : decode b_Sr_readSchema 4 = .ok (.invokevirtual 35, 3) := by decide +kernel
theorem d_Sr_readSchema_7 : decode b_Sr_readSchema 7 = .ok (.aload_n 0, 1) := by decide +kernel
theorem d_Sr_readSchema_8 : decode b_Sr_readSchema 8 = .ok (.getfield 24, 3) := by decide +kernel
theorem d_Sr_readSchema_11 : decode b_Sr_readSchema 11 = .ok (.invokevirtual 40, 3) := by decide +kernel
theorem d_Sr_readSchema_14 : decode b_Sr_readSchema 14 = .ok (.aload_n 0, 1) := by decide +kernel
theorem d_Sr_readSchema_15 : decode b_Sr_readSchema 15 = .ok (.iconst 0, 1) := by decide +kernel
theorem d_Sr_readSchema_16 : decode b_Sr_readSchema 16 = .ok (.putfield 43, 3) := by decide +kernel
theorem d_Sr_readSchema_19 : decode b_Sr_readSchema 19 = .ok (.aload_n 0, 1) := by decide +kernel
theorem d_Sr_readSchema_20 : decode b_Sr_readSchema 20 = .ok (.iconst 0, 1) := by decide +kernel
theorem d_Sr_readSchema_21 : decode b_Sr_readSchema 21 = .ok (.putfield 28, 3) := by decide +kernel
theorem d_Sr_readSchema_24 : decode b_Sr_readSchema 24 = .ok (.aload_n 0, 1) := by decide +kernel
theorem d_Sr_readSchema_25 : decode b_Sr_readSchema 25 = .ok (.iconst (-1), 1) := by decide +kernel
theorem d_Sr_readSchema_26 : decode b_Sr_readSchema 26 = .ok (.putfield 32, 3) := by decide +kernel
theorem d_Sr_readSchema_29 : decode b_Sr_readSchema 29 = .ok (.aload_n 0, 1) := by decide +kernel
theorem d_Sr_readSchema_30 : decode b_Sr_readSchema 30 = .ok (.getfield 9, 3) := by decide +kernel
theorem d_Sr_readSchema_33 : decode b_Sr_readSchema 33 = .ok (.getfield 46, 3) := by decide +kernel
theorem d_Sr_readSchema_36 : decode b_Sr_readSchema 36 = .ok (.iconst (-1), 1) := by decide +kernel
theorem d_Sr_readSchema_37 : decode b_Sr_readSchema 37 = .ok (.if_icmp .ne 21, 3) := by decide +kernel
theorem d_Sr_readSchema_40 : decode b_Sr_readSchema 40 = .ok (.aload_n 0, 1) := by decide +kernel
theorem d_Sr_readSchema_41 : decode b_Sr_readSchema 41 = .ok (.iconst 1, 1) := by decide +kernel
theorem d_Sr_readSchema_42 : decode b_Sr_readSchema 42 = .ok (.putfield 28, 3) := by decide +kernel
theorem d_Sr_readSchema_45 : decode b_Sr_readSchema 45 = .ok (.aload_n 0, 1) := by decide +kernel
theorem d_Sr_readSchema_46 : decode b_Sr_readSchema 46 = .ok (.aload_n 0, 1) := by decide +kernel
theorem d_Sr_readSchema_47 : decode b_Sr_readSchema 47 = .ok (.getfield 9, 3) := by decide +kernel
theorem d_Sr_readSchema_50 : decode b_Sr_readSchema 50 = .ok (.getfield 51, 3) := by decide +kernel
theorem d_Sr_readSchema_53 : decode b_Sr_readSchema 53 = .ok (.putfield 32, 3) := by decide +kernel
theorem d_Sr_readSchema_56 : decode b_Sr_readSchema 56 = .ok (.iconst (-1), 1) := by decide +kernel
theorem d_Sr_readSchema_57 : decode b_Sr_readSchema 57 = .ok (.ireturn, 1) := by decide +kernel
theorem d_Sr_readSchema_58 : decode b_Sr_readSchema 58 = .ok (.aload_n 0, 1) := by decide +kernel
theorem d_Sr_readSchema_59 : decode b_Sr_readSchema 59 = .ok (.aload_n 0, 1) := by decide +kernel
theorem d_Sr_readSchema_60 : decode b_Sr_readSchema 60 = .ok (.getfield 9, 3) := by decide +kernel
theorem d_Sr_readSchema_63 : decode b_Sr_readSchema 63 = .ok (.getfield 46, 3) := by decide +kernel
theorem d_Sr_readSchema_66 : decode b_Sr_readSchema 66 = .ok (.iconst 0, 1) := by decide +kernel
theorem d_Sr_readSchema_67 : decode b_Sr_readSchema 67 = .ok (.iconst 0, 1) := by decide +kernel
theorem d_Sr_readSchema_68 : decode b_Sr_readSchema 68 = .ok (.invokevirtual 52, 3) := by decide +kernel
theorem d_Sr_readSchema_71 : decode b_Sr_readSchema 71 = .ok (.istore_n 1, 1) := by decide +kernel
theorem d_Sr_readSchema_72 : decode b_Sr_readSchema 72 = .ok (.iload_n 1, 1) := by decide +kernel
theorem d_Sr_readSchema_73 : decode b_Sr_readSchema 73 = .ok (.iconst (-1), 1) := by decide +kernel
theorem d_Sr_readSchema_74 : decode b_Sr_readSchema 74 = .ok (.if_icmp .ne 5, 3) := by decide +kernel
theorem d_Sr_readSchema_77 : decode b_Sr_readSchema 77 = .ok (.iconst (-1), 1) := by decide +kernel
theorem d_Sr_readSchema_78 : decode b_Sr_readSchema 78 = .ok (.ireturn, 1) := by decide +kernel
theorem d_Sr_readSchema_79 : decode b_Sr_readSchema 79 = .ok (.aload_n 0, 1) := by decide +kernel
theorem d_Sr_readSchema_80 : decode b_Sr_readSchema 80 = .ok (.getfield 24, 3) := by decide +kernel
theorem d_Sr_readSchema_83 : decode b_Sr_readSchema 83 = .ok (.invokevirtual 56, 3) := by decide +kernel
theorem d_Sr_readSchema_86 : decode b_Sr_readSchema 86 = .ok (.istore_n 2, 1) := by decide +kernel
theorem d_Sr_readSchema_87 : decode b_Sr_readSchema 87 = .ok (.iload_n 2, 1) := by decide +kernel
theorem d_Sr_readSchema_88 : decode b_Sr_readSchema 88 = .ok (.iconst (-1), 1) := by decide +kernel
theorem d_Sr_readSchema_89 : decode b_Sr_readSchema 89 = .ok (.if_icmp .ne 7, 3) := by decide +kernel
theorem d_Sr_readSchema_92 : decode b_Sr_readSchema 92 = .ok (.iload_n 1, 1) := by decide +kernel
theorem d_Sr_readSchema_93 : decode b_Sr_readSchema 93 = .ok (.goto 10, 3) := by decide +kernel
theorem d_Sr_readSchema_96 : decode b_Sr_readSchema 96 = .ok (.aload_n 0, 1) := by decide +kernel
theorem d_Sr_readSchema_97 : decode b_Sr_readSchema 97 = .ok (.bipush 12, 2) := by decide +kernel
theorem d_Sr_readSchema_99 : decode b_Sr_readSchema 99 = .ok (.iload_n 2, 1) := by decide +kernel
theorem d_Sr_readSchema_100 : decode b_Sr_readSchema 100 = .ok (.invokevirtual 60, 3) := by decide +kernel
theorem d_Sr_readSchema_103 : decode b_Sr_readSchema 103 = .ok (.ireturn, 1) := by decide +kernel
