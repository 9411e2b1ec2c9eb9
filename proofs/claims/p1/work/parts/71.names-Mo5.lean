/-! names: methods, their instructions, words -/
theorem mw_1848 : Cond.code ⟨"RecordLakeModel", "schema", "()I"⟩ prog_14_method_20_code 1 (some .int) ∈ gW := gw_of (List.mem_of_getElem? (i := 1848) (by decide +kernel)) (by decide +kernel)
theorem mw_1849 : Cond.methodLink "RecordLakeModel" 132 ⟨"RecordLakeModel", "readTyped", "()I"⟩ ∈ gW := gw_of (List.mem_of_getElem? (i := 1849) (by decide +kernel)) (by decide +kernel)
theorem mw_1851 : Cond.instanceMethod ⟨"RecordLakeModel", "readTyped", "()I"⟩ ∈ gW := gw_of (List.mem_of_getElem? (i := 1851) (by decide +kernel)) (by decide +kernel)
theorem mw_1852 : Cond.code ⟨"RecordLakeModel", "readTyped", "()I"⟩ prog_14_method_19_code 3 (some .int) ∈ gW := gw_of (List.mem_of_getElem? (i := 1852) (by decide +kernel)) (by decide +kernel)
theorem mw_1853 : Cond.methodLink "RecordLakeModel" 103 ⟨"RecordLakeModel$Text", "read", "([BII)I"⟩ ∈ gW := gw_of (List.mem_of_getElem? (i := 1853) (by decide +kernel)) (by decide +kernel)
theorem mw_1854 : Cond.instanceMethod ⟨"RecordLakeModel$Text", "read", "([BII)I"⟩ ∈ gW := gw_of (List.mem_of_getElem? (i := 1854) (by decide +kernel)) (by decide +kernel)
theorem mw_1855 : Cond.selects "RecordLakeModel$Text" ⟨"RecordLakeModel$Text", "read", "([BII)I"⟩ ⟨"RecordLakeModel$Text", "read", "([BII)I"⟩ ∈ gW := gw_of (List.mem_of_getElem? (i := 1855) (by decide +kernel)) (by decide +kernel)
theorem mw_2102 : Cond.code ⟨"RecordLakeModel", "register", "(I)I"⟩ prog_14_method_21_code 5 (some .int) ∈ gW := gw_of (List.mem_of_getElem? (i := 2102) (by decide +kernel)) (by decide +kernel)
theorem ms_98 : Cond.selects "RecordLakeModel" ⟨"RecordLakeModel", "readTyped", "()I"⟩ ⟨"RecordLakeModel", "readTyped", "()I"⟩ ∈ gW := gw_sel (List.mem_of_getElem? (i := 98) (by decide +kernel)) (by decide +kernel)
theorem nw_1594 : Cond.fieldLinkNest "RecordLakeModel" 126 "RecordLakeModel$Text" "place" "I" "RecordLakeModel" ∈ nW := nw_of (List.mem_of_getElem? (i := 1594) (by decide +kernel)) rfl
theorem nw_1641 : Cond.fieldLinkNest "RecordLakeModel" 127 "RecordLakeModel$Text" "plainSize" "I" "RecordLakeModel" ∈ nW := nw_of (List.mem_of_getElem? (i := 1641) (by decide +kernel)) rfl
abbrev b_Mo_readTyped : ByteArray := prog_14_method_19_code
abbrev y_Mo_readTyped : MethodName := ⟨"RecordLakeModel", "readTyped", "()I"⟩
abbrev w_Mo_readTyped : List Cond := Cond.code y_Mo_readTyped b_Mo_readTyped 3 (some .int) :: gW
theorem d_Mo_readTyped_0 : decode b_Mo_readTyped 0 = .ok (.aload_n 0, 1) := by decide +kernel
theorem d_Mo_readTyped_1 : decode b_Mo_readTyped 1 = .ok (.getfield 20, 3) := by decide +kernel
theorem d_Mo_readTyped_4 : decode b_Mo_readTyped 4 = .ok (.aload_n 0, 1) := by decide +kernel
theorem d_Mo_readTyped_5 : decode b_Mo_readTyped 5 = .ok (.getfield 7, 3) := by decide +kernel
theorem d_Mo_readTyped_8 : decode b_Mo_readTyped 8 = .ok (.iconst 0, 1) := by decide +kernel
theorem d_Mo_readTyped_9 : decode b_Mo_readTyped 9 = .ok (.aload_n 0, 1) := by decide +kernel
theorem d_Mo_readTyped_10 : decode b_Mo_readTyped 10 = .ok (.getfield 84, 3) := by decide +kernel
theorem d_Mo_readTyped_13 : decode b_Mo_readTyped 13 = .ok (.invokevirtual 103, 3) := by decide +kernel
theorem d_Mo_readTyped_16 : decode b_Mo_readTyped 16 = .ok (.istore_n 1, 1) := by decide +kernel
theorem d_Mo_readTyped_17 : decode b_Mo_readTyped 17 = .ok (.aload_n 0, 1) := by decide +kernel
theorem d_Mo_readTyped_18 : decode b_Mo_readTyped 18 = .ok (.iload_n 1, 1) := by decide +kernel
theorem d_Mo_readTyped_19 : decode b_Mo_readTyped 19 = .ok (.ifCond .le 13, 3) := by decide +kernel
theorem d_Mo_readTyped_22 : decode b_Mo_readTyped 22 = .ok (.aload_n 0, 1) := by decide +kernel
theorem d_Mo_readTyped_23 : decode b_Mo_readTyped 23 = .ok (.getfield 20, 3) := by decide +kernel
theorem d_Mo_readTyped_26 : decode b_Mo_readTyped 26 = .ok (.getfield 126, 3) := by decide +kernel
theorem d_Mo_readTyped_29 : decode b_Mo_readTyped 29 = .ok (.goto 4, 3) := by decide +kernel
theorem d_Mo_readTyped_32 : decode b_Mo_readTyped 32 = .ok (.iconst (-1), 1) := by decide +kernel
theorem d_Mo_readTyped_33 : decode b_Mo_readTyped 33 = .ok (.putfield 13, 3) := by decide +kernel
theorem d_Mo_readTyped_36 : decode b_Mo_readTyped 36 = .ok (.aload_n 0, 1) := by decide +kernel
theorem d_Mo_readTyped_37 : decode b_Mo_readTyped 37 = .ok (.aload_n 0, 1) := by decide +kernel
theorem d_Mo_readTyped_38 : decode b_Mo_readTyped 38 = .ok (.getfield 20, 3) := by decide +kernel
theorem d_Mo_readTyped_41 : decode b_Mo_readTyped 41 = .ok (.getfield 127, 3) := by decide +kernel
theorem d_Mo_readTyped_44 : decode b_Mo_readTyped 44 = .ok (.putfield 130, 3) := by decide +kernel
theorem d_Mo_readTyped_47 : decode b_Mo_readTyped 47 = .ok (.iconst 0, 1) := by decide +kernel
theorem d_Mo_readTyped_48 : decode b_Mo_readTyped 48 = .ok (.istore_n 2, 1) := by decide +kernel
theorem d_Mo_readTyped_49 : decode b_Mo_readTyped 49 = .ok (.iload_n 2, 1) := by decide +kernel
theorem d_Mo_readTyped_50 : decode b_Mo_readTyped 50 = .ok (.aload_n 0, 1) := by decide +kernel
theorem d_Mo_readTyped_51 : decode b_Mo_readTyped 51 = .ok (.getfield 130, 3) := by decide +kernel
theorem d_Mo_readTyped_54 : decode b_Mo_readTyped 54 = .ok (.if_icmp .ge 24, 3) := by decide +kernel
theorem d_Mo_readTyped_57 : decode b_Mo_readTyped 57 = .ok (.aload_n 0, 1) := by decide +kernel
theorem d_Mo_readTyped_58 : decode b_Mo_readTyped 58 = .ok (.getfield 30, 3) := by decide +kernel
theorem d_Mo_readTyped_61 : decode b_Mo_readTyped 61 = .ok (.iload_n 2, 1) := by decide +kernel
theorem d_Mo_readTyped_62 : decode b_Mo_readTyped 62 = .ok (.aload_n 0, 1) := by decide +kernel
theorem d_Mo_readTyped_63 : decode b_Mo_readTyped 63 = .ok (.getfield 20, 3) := by decide +kernel
theorem d_Mo_readTyped_66 : decode b_Mo_readTyped 66 = .ok (.getfield 131, 3) := by decide +kernel
theorem d_Mo_readTyped_69 : decode b_Mo_readTyped 69 = .ok (.iload_n 2, 1) := by decide +kernel
theorem d_Mo_readTyped_70 : decode b_Mo_readTyped 70 = .ok (.baload, 1) := by decide +kernel
theorem d_Mo_readTyped_71 : decode b_Mo_readTyped 71 = .ok (.bastore, 1) := by decide +kernel
theorem d_Mo_readTyped_72 : decode b_Mo_readTyped 72 = .ok (.iinc 2 1, 3) := by decide +kernel
theorem d_Mo_readTyped_75 : decode b_Mo_readTyped 75 = .ok (.goto (-26), 3) := by decide +kernel
theorem d_Mo_readTyped_78 : decode b_Mo_readTyped 78 = .ok (.iload_n 1, 1) := by decide +kernel
theorem d_Mo_readTyped_79 : decode b_Mo_readTyped 79 = .ok (.ireturn, 1) := by decide +kernel
abbrev b_Mo_schema : ByteArray := prog_14_method_20_code
abbrev y_Mo_schema : MethodName := ⟨"RecordLakeModel", "schema", "()I"⟩
abbrev w_Mo_schema : List Cond := Cond.code y_Mo_schema b_Mo_schema 1 (some .int) :: gW
theorem d_Mo_schema_0 : decode b_Mo_schema 0 = .ok (.aload_n 0, 1) := by decide +kernel
theorem d_Mo_schema_1 : decode b_Mo_schema 1 = .ok (.iconst 0, 1) := by decide +kernel
theorem d_Mo_schema_2 : decode b_Mo_schema 2 = .ok (.putfield 81, 3) := by decide +kernel
theorem d_Mo_schema_5 : decode b_Mo_schema 5 = .ok (.aload_n 0, 1) := by decide +kernel
theorem d_Mo_schema_6 : decode b_Mo_schema 6 = .ok (.invokevirtual 132, 3) := by decide +kernel
theorem d_Mo_schema_9 : decode b_Mo_schema 9 = .ok (.ireturn, 1) := by decide +kernel
abbrev b_Mo_register : ByteArray := prog_14_method_21_code
abbrev y_Mo_register : MethodName := ⟨"RecordLakeModel", "register", "(I)I"⟩
abbrev w_Mo_register : List Cond := Cond.code y_Mo_register b_Mo_register 5 (some .int) :: gW
theorem d_Mo_register_0 : decode b_Mo_register 0 = .ok (.aload_n 0, 1) := by decide +kernel
theorem d_Mo_register_1 : decode b_Mo_register 1 = .ok (.iload_n 1, 1) := by decide +kernel
theorem d_Mo_register_2 : decode b_Mo_register 2 = .ok (.invokestatic 136, 3) := by decide +kernel
theorem d_Mo_register_5 : decode b_Mo_register 5 = .ok (.ifCond .ne 7, 3) := by decide +kernel
theorem d_Mo_register_8 : decode b_Mo_register 8 = .ok (.iconst 1, 1) := by decide +kernel
theorem d_Mo_register_9 : decode b_Mo_register 9 = .ok (.goto 4, 3) := by decide +kernel
theorem d_Mo_register_12 : decode b_Mo_register 12 = .ok (.iconst 0, 1) := by decide +kernel
theorem d_Mo_register_13 : decode b_Mo_register 13 = .ok (.iconst 0, 1) := by decide +kernel
theorem d_Mo_register_14 : decode b_Mo_register 14 = .ok (.invokevirtual 87, 3) := by decide +kernel
theorem d_Mo_register_17 : decode b_Mo_register 17 = .ok (.ifCond .eq 5, 3) := by decide +kernel
theorem d_Mo_register_20 : decode b_Mo_register 20 = .ok (.iconst 0, 1) := by decide +kernel
theorem d_Mo_register_21 : decode b_Mo_register 21 = .ok (.ireturn, 1) := by decide +kernel
theorem d_Mo_register_22 : decode b_Mo_register 22 = .ok (.aload_n 0, 1) := by decide +kernel
theorem d_Mo_register_23 : decode b_Mo_register 23 = .ok (.getfield 111, 3) := by decide +kernel
theorem d_Mo_register_26 : decode b_Mo_register 26 = .ok (.ifCond .eq 6, 3) := by decide +kernel
theorem d_Mo_register_29 : decode b_Mo_register 29 = .ok (.bipush (-33), 2) := by decide +kernel
theorem d_Mo_register_31 : decode b_Mo_register 31 = .ok (.ireturn, 1) := by decide +kernel
theorem d_Mo_register_32 : decode b_Mo_register 32 = .ok (.aload_n 0, 1) := by decide +kernel
theorem d_Mo_register_33 : decode b_Mo_register 33 = .ok (.invokevirtual 132, 3) := by decide +kernel
theorem d_Mo_register_36 : decode b_Mo_register 36 = .ok (.istore_n 2, 1) := by decide +kernel
theorem d_Mo_register_37 : decode b_Mo_register 37 = .ok (.iload_n 2, 1) := by decide +kernel
theorem d_Mo_register_38 : decode b_Mo_register 38 = .ok (.ifCond .le 6, 3) := by decide +kernel
theorem d_Mo_register_41 : decode b_Mo_register 41 = .ok (.iload_n 2, 1) := by decide +kernel
theorem d_Mo_register_42 : decode b_Mo_register 42 = .ok (.ineg, 1) := by decide +kernel
theorem d_Mo_register_43 : decode b_Mo_register 43 = .ok (.ireturn, 1) := by decide +kernel
theorem d_Mo_register_44 : decode b_Mo_register 44 = .ok (.aload_n 0, 1) := by decide +kernel
theorem d_Mo_register_45 : decode b_Mo_register 45 = .ok (.iload_n 1, 1) := by decide +kernel
theorem d_Mo_register_46 : decode b_Mo_register 46 = .ok (.invokevirtual 139, 3) := by decide +kernel
theorem d_Mo_register_49 : decode b_Mo_register 49 = .ok (.istore_n 3, 1) := by decide +kernel
theorem d_Mo_register_50 : decode b_Mo_register 50 = .ok (.iconst 0, 1) := by decide +kernel
theorem d_Mo_register_51 : decode b_Mo_register 51 = .ok (.istore 4, 2) := by decide +kernel
theorem d_Mo_register_53 : decode b_Mo_register 53 = .ok (.iload 4, 2) := by decide +kernel
theorem d_Mo_register_55 : decode b_Mo_register 55 = .ok (.iload_n 3, 1) := by decide +kernel
theorem d_Mo_register_56 : decode b_Mo_register 56 = .ok (.if_icmp .ge 38, 3) := by decide +kernel
theorem d_Mo_register_59 : decode b_Mo_register 59 = .ok (.aload_n 0, 1) := by decide +kernel
theorem d_Mo_register_60 : decode b_Mo_register 60 = .ok (.aload_n 0, 1) := by decide +kernel
theorem d_Mo_register_61 : decode b_Mo_register 61 = .ok (.getfield 24, 3) := by decide +kernel
theorem d_Mo_register_64 : decode b_Mo_register 64 = .ok (.iload_n 1, 1) := by decide +kernel
theorem d_Mo_register_65 : decode b_Mo_register 65 = .ok (.iload 4, 2) := by decide +kernel
theorem d_Mo_register_67 : decode b_Mo_register 67 = .ok (.invokevirtual 142, 3) := by decide +kernel
theorem d_Mo_register_70 : decode b_Mo_register 70 = .ok (.aload_n 0, 1) := by decide +kernel
theorem d_Mo_register_71 : decode b_Mo_register 71 = .ok (.aload_n 0, 1) := by decide +kernel
theorem d_Mo_register_72 : decode b_Mo_register 72 = .ok (.getfield 24, 3) := by decide +kernel
theorem d_Mo_register_75 : decode b_Mo_register 75 = .ok (.aload_n 0, 1) := by decide +kernel
theorem d_Mo_register_76 : decode b_Mo_register 76 = .ok (.getfield 20, 3) := by decide +kernel
theorem d_Mo_register_79 : decode b_Mo_register 79 = .ok (.invokevirtual 146, 3) := by decide +kernel
theorem d_Mo_register_82 : decode b_Mo_register 82 = .ok (.ifCond .ne 6, 3) := by decide +kernel
theorem d_Mo_register_85 : decode b_Mo_register 85 = .ok (.bipush (-30), 2) := by decide +kernel
theorem d_Mo_register_87 : decode b_Mo_register 87 = .ok (.ireturn, 1) := by decide +kernel
theorem d_Mo_register_88 : decode b_Mo_register 88 = .ok (.iinc 4 1, 3) := by decide +kernel
theorem d_Mo_register_91 : decode b_Mo_register 91 = .ok (.goto (-38), 3) := by decide +kernel
theorem d_Mo_register_94 : decode b_Mo_register 94 = .ok (.iload_n 3, 1) := by decide +kernel
theorem d_Mo_register_95 : decode b_Mo_register 95 = .ok (.bipush 16, 2) := by decide +kernel
theorem d_Mo_register_97 : decode b_Mo_register 97 = .ok (.if_icmp .ne 6, 3) := by decide +kernel
theorem d_Mo_register_100 : decode b_Mo_register 100 = .ok (.bipush (-31), 2) := by decide +kernel
theorem d_Mo_register_102 : decode b_Mo_register 102 = .ok (.ireturn, 1) := by decide +kernel
theorem d_Mo_register_103 : decode b_Mo_register 103 = .ok (.aload_n 0, 1) := by decide +kernel
theorem d_Mo_register_104 : decode b_Mo_register 104 = .ok (.iload_n 1, 1) := by decide +kernel
theorem d_Mo_register_105 : decode b_Mo_register 105 = .ok (.iload_n 3, 1) := by decide +kernel
theorem d_Mo_register_106 : decode b_Mo_register 106 = .ok (.aload_n 0, 1) := by decide +kernel
theorem d_Mo_register_107 : decode b_Mo_register 107 = .ok (.getfield 20, 3) := by decide +kernel
theorem d_Mo_register_110 : decode b_Mo_register 110 = .ok (.getfield 150, 3) := by decide +kernel
theorem d_Mo_register_113 : decode b_Mo_register 113 = .ok (.iconst (-1), 1) := by decide +kernel
theorem d_Mo_register_114 : decode b_Mo_register 114 = .ok (.aload_n 0, 1) := by decide +kernel
theorem d_Mo_register_115 : decode b_Mo_register 115 = .ok (.getfield 20, 3) := by decide +kernel
theorem d_Mo_register_118 : decode b_Mo_register 118 = .ok (.getfield 150, 3) := by decide +kernel
theorem d_Mo_register_121 : decode b_Mo_register 121 = .ok (.aload_n 0, 1) := by decide +kernel
theorem d_Mo_register_122 : decode b_Mo_register 122 = .ok (.getfield 7, 3) := by decide +kernel
theorem d_Mo_register_125 : decode b_Mo_register 125 = .ok (.aload_n 0, 1) := by decide +kernel
theorem d_Mo_register_126 : decode b_Mo_register 126 = .ok (.getfield 78, 3) := by decide +kernel
theorem d_Mo_register_129 : decode b_Mo_register 129 = .ok (.iconst 0, 1) := by decide +kernel
theorem d_Mo_register_130 : decode b_Mo_register 130 = .ok (.invokevirtual 153, 3) := by decide +kernel
theorem d_Mo_register_133 : decode b_Mo_register 133 = .ok (.istore 4, 2) := by decide +kernel
theorem d_Mo_register_135 : decode b_Mo_register 135 = .ok (.iload 4, 2) := by decide +kernel
theorem d_Mo_register_137 : decode b_Mo_register 137 = .ok (.bipush (-31), 2) := by decide +kernel
theorem d_Mo_register_139 : decode b_Mo_register 139 = .ok (.if_icmp .ne 6, 3) := by decide +kernel
theorem d_Mo_register_142 : decode b_Mo_register 142 = .ok (.bipush (-31), 2) := by decide +kernel
theorem d_Mo_register_144 : decode b_Mo_register 144 = .ok (.ireturn, 1) := by decide +kernel
theorem d_Mo_register_145 : decode b_Mo_register 145 = .ok (.aload_n 0, 1) := by decide +kernel
theorem d_Mo_register_146 : decode b_Mo_register 146 = .ok (.iconst 0, 1) := by decide +kernel
theorem d_Mo_register_147 : decode b_Mo_register 147 = .ok (.putfield 84, 3) := by decide +kernel
theorem d_Mo_register_150 : decode b_Mo_register 150 = .ok (.iload 4, 2) := by decide +kernel
theorem d_Mo_register_152 : decode b_Mo_register 152 = .ok (.ifCond .ge 8, 3) := by decide +kernel
theorem d_Mo_register_155 : decode b_Mo_register 155 = .ok (.iload 4, 2) := by decide +kernel
theorem d_Mo_register_157 : decode b_Mo_register 157 = .ok (.goto 4, 3) := by decide +kernel
theorem d_Mo_register_160 : decode b_Mo_register 160 = .ok (.iload_n 3, 1) := by decide +kernel
theorem d_Mo_register_161 : decode b_Mo_register 161 = .ok (.ireturn, 1) := by decide +kernel
