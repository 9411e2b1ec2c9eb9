/-! names: methods, their instructions, words -/
theorem mw_1591 : Cond.fieldLink "RecordLakeModel$Text" 112 "RecordLakeModel$Text" "deep" "I" ∈ gW := gw_of (List.mem_of_getElem? (i := 1591) (by decide +kernel)) (by decide +kernel)
theorem mw_1611 : Cond.fieldLink "RecordLakeModel$Text" 167 "RecordLakeModel$Text" "lettered" "I" ∈ gW := gw_of (List.mem_of_getElem? (i := 1611) (by decide +kernel)) (by decide +kernel)
theorem mw_1612 : Cond.fieldLink "RecordLakeModel$Text" 189 "RecordLakeModel$Text" "shapes" "I" ∈ gW := gw_of (List.mem_of_getElem? (i := 1612) (by decide +kernel)) (by decide +kernel)
theorem mw_1613 : Cond.fieldLink "RecordLakeModel$Text" 195 "RecordLakeModel$Text" "looked" "I" ∈ gW := gw_of (List.mem_of_getElem? (i := 1613) (by decide +kernel)) (by decide +kernel)
theorem mw_1626 : Cond.fieldLink "RecordLakeModel$Text" 192 "RecordLakeModel$Text" "kidCount" "I" ∈ gW := gw_of (List.mem_of_getElem? (i := 1626) (by decide +kernel)) (by decide +kernel)
theorem mw_1635 : Cond.fieldLink "RecordLakeModel$Text" 271 "RecordLakeModel$Text" "done" "I" ∈ gW := gw_of (List.mem_of_getElem? (i := 1635) (by decide +kernel)) (by decide +kernel)
theorem mw_1642 : Cond.fieldLink "RecordLakeModel$Text" 280 "RecordLakeModel$Text" "plainSize" "I" ∈ gW := gw_of (List.mem_of_getElem? (i := 1642) (by decide +kernel)) (by decide +kernel)
theorem mw_1856 : Cond.codeWith ⟨"RecordLakeModel$Text", "read", "([BII)I"⟩ prog_15_method_33_code 5 (some .int) [(130, 134, 137, 85)] ∈ gW := gw_of (List.mem_of_getElem? (i := 1856) (by decide +kernel)) (by decide +kernel)
theorem mw_1858 : Cond.methodLink "RecordLakeModel$Text" 283 ⟨"RecordLakeModel$Text", "readAll", "()V"⟩ ∈ gW := gw_of (List.mem_of_getElem? (i := 1858) (by decide +kernel)) (by decide +kernel)
theorem mw_1860 : Cond.instanceMethod ⟨"RecordLakeModel$Text", "readAll", "()V"⟩ ∈ gW := gw_of (List.mem_of_getElem? (i := 1860) (by decide +kernel)) (by decide +kernel)
theorem ms_99 : Cond.selects "RecordLakeModel$Text" ⟨"RecordLakeModel$Text", "readAll", "()V"⟩ ⟨"RecordLakeModel$Text", "readAll", "()V"⟩ ∈ gW := gw_sel (List.mem_of_getElem? (i := 99) (by decide +kernel)) (by decide +kernel)
abbrev b_Mt_read : ByteArray := prog_15_method_33_code
abbrev y_Mt_read : MethodName := ⟨"RecordLakeModel$Text", "read", "([BII)I"⟩
abbrev w_Mt_read : List Cond := Cond.codeWith y_Mt_read b_Mt_read 5 (some .int) [(130, 134, 137, 85)] :: gW
theorem d_Mt_read_0 : decode b_Mt_read 0 = .ok (.iconst 0, 1) := by decide +kernel
theorem d_Mt_read_1 : decode b_Mt_read 1 = .ok (.istore 4, 2) := by decide +kernel
theorem d_Mt_read_3 : decode b_Mt_read 3 = .ok (.iload 4, 2) := by decide +kernel
theorem d_Mt_read_5 : decode b_Mt_read 5 = .ok (.iload_n 3, 1) := by decide +kernel
theorem d_Mt_read_6 : decode b_Mt_read 6 = .ok (.if_icmp .ge 22, 3) := by decide +kernel
theorem d_Mt_read_9 : decode b_Mt_read 9 = .ok (.aload_n 0, 1) := by decide +kernel
theorem d_Mt_read_10 : decode b_Mt_read 10 = .ok (.getfield 9, 3) := by decide +kernel
theorem d_Mt_read_13 : decode b_Mt_read 13 = .ok (.iload 4, 2) := by decide +kernel
theorem d_Mt_read_15 : decode b_Mt_read 15 = .ok (.aload_n 1, 1) := by decide +kernel
theorem d_Mt_read_16 : decode b_Mt_read 16 = .ok (.iload_n 2, 1) := by decide +kernel
theorem d_Mt_read_17 : decode b_Mt_read 17 = .ok (.iload 4, 2) := by decide +kernel
theorem d_Mt_read_19 : decode b_Mt_read 19 = .ok (.iadd, 1) := by decide +kernel
theorem d_Mt_read_20 : decode b_Mt_read 20 = .ok (.baload, 1) := by decide +kernel
theorem d_Mt_read_21 : decode b_Mt_read 21 = .ok (.bastore, 1) := by decide +kernel
theorem d_Mt_read_22 : decode b_Mt_read 22 = .ok (.iinc 4 1, 3) := by decide +kernel
theorem d_Mt_read_25 : decode b_Mt_read 25 = .ok (.goto (-22), 3) := by decide +kernel
theorem d_Mt_read_28 : decode b_Mt_read 28 = .ok (.aload_n 0, 1) := by decide +kernel
theorem d_Mt_read_29 : decode b_Mt_read 29 = .ok (.iload_n 3, 1) := by decide +kernel
theorem d_Mt_read_30 : decode b_Mt_read 30 = .ok (.putfield 98, 3) := by decide +kernel
theorem d_Mt_read_33 : decode b_Mt_read 33 = .ok (.aload_n 0, 1) := by decide +kernel
theorem d_Mt_read_34 : decode b_Mt_read 34 = .ok (.iconst 0, 1) := by decide +kernel
theorem d_Mt_read_35 : decode b_Mt_read 35 = .ok (.putfield 95, 3) := by decide +kernel
theorem d_Mt_read_38 : decode b_Mt_read 38 = .ok (.aload_n 0, 1) := by decide +kernel
theorem d_Mt_read_39 : decode b_Mt_read 39 = .ok (.iconst 0, 1) := by decide +kernel
theorem d_Mt_read_40 : decode b_Mt_read 40 = .ok (.putfield 112, 3) := by decide +kernel
theorem d_Mt_read_43 : decode b_Mt_read 43 = .ok (.aload_n 0, 1) := by decide +kernel
theorem d_Mt_read_44 : decode b_Mt_read 44 = .ok (.iconst 0, 1) := by decide +kernel
theorem d_Mt_read_45 : decode b_Mt_read 45 = .ok (.putfield 109, 3) := by decide +kernel
theorem d_Mt_read_48 : decode b_Mt_read 48 = .ok (.aload_n 0, 1) := by decide +kernel
theorem d_Mt_read_49 : decode b_Mt_read 49 = .ok (.iconst 0, 1) := by decide +kernel
theorem d_Mt_read_50 : decode b_Mt_read 50 = .ok (.putfield 167, 3) := by decide +kernel
theorem d_Mt_read_53 : decode b_Mt_read 53 = .ok (.aload_n 0, 1) := by decide +kernel
theorem d_Mt_read_54 : decode b_Mt_read 54 = .ok (.bipush 6, 2) := by decide +kernel
theorem d_Mt_read_56 : decode b_Mt_read 56 = .ok (.putfield 189, 3) := by decide +kernel
theorem d_Mt_read_59 : decode b_Mt_read 59 = .ok (.iconst 0, 1) := by decide +kernel
theorem d_Mt_read_60 : decode b_Mt_read 60 = .ok (.istore 4, 2) := by decide +kernel
theorem d_Mt_read_62 : decode b_Mt_read 62 = .ok (.iload 4, 2) := by decide +kernel
theorem d_Mt_read_64 : decode b_Mt_read 64 = .ok (.bipush 6, 2) := by decide +kernel
theorem d_Mt_read_66 : decode b_Mt_read 66 = .ok (.if_icmp .ge 34, 3) := by decide +kernel
theorem d_Mt_read_69 : decode b_Mt_read 69 = .ok (.aload_n 0, 1) := by decide +kernel
theorem d_Mt_read_70 : decode b_Mt_read 70 = .ok (.getfield 38, 3) := by decide +kernel
theorem d_Mt_read_73 : decode b_Mt_read 73 = .ok (.iload 4, 2) := by decide +kernel
theorem d_Mt_read_75 : decode b_Mt_read 75 = .ok (.iload 4, 2) := by decide +kernel
theorem d_Mt_read_77 : decode b_Mt_read 77 = .ok (.iastore, 1) := by decide +kernel
theorem d_Mt_read_78 : decode b_Mt_read 78 = .ok (.aload_n 0, 1) := by decide +kernel
theorem d_Mt_read_79 : decode b_Mt_read 79 = .ok (.getfield 41, 3) := by decide +kernel
theorem d_Mt_read_82 : decode b_Mt_read 82 = .ok (.iload 4, 2) := by decide +kernel
theorem d_Mt_read_84 : decode b_Mt_read 84 = .ok (.iconst (-1), 1) := by decide +kernel
theorem d_Mt_read_85 : decode b_Mt_read 85 = .ok (.iastore, 1) := by decide +kernel
theorem d_Mt_read_86 : decode b_Mt_read 86 = .ok (.aload_n 0, 1) := by decide +kernel
theorem d_Mt_read_87 : decode b_Mt_read 87 = .ok (.getfield 47, 3) := by decide +kernel
theorem d_Mt_read_90 : decode b_Mt_read 90 = .ok (.iload 4, 2) := by decide +kernel
theorem d_Mt_read_92 : decode b_Mt_read 92 = .ok (.iconst (-1), 1) := by decide +kernel
theorem d_Mt_read_93 : decode b_Mt_read 93 = .ok (.iastore, 1) := by decide +kernel
theorem d_Mt_read_94 : decode b_Mt_read 94 = .ok (.iinc 4 1, 3) := by decide +kernel
theorem d_Mt_read_97 : decode b_Mt_read 97 = .ok (.goto (-35), 3) := by decide +kernel
theorem d_Mt_read_100 : decode b_Mt_read 100 = .ok (.aload_n 0, 1) := by decide +kernel
theorem d_Mt_read_101 : decode b_Mt_read 101 = .ok (.iconst 0, 1) := by decide +kernel
theorem d_Mt_read_102 : decode b_Mt_read 102 = .ok (.putfield 195, 3) := by decide +kernel
theorem d_Mt_read_105 : decode b_Mt_read 105 = .ok (.aload_n 0, 1) := by decide +kernel
theorem d_Mt_read_106 : decode b_Mt_read 106 = .ok (.iconst 0, 1) := by decide +kernel
theorem d_Mt_read_107 : decode b_Mt_read 107 = .ok (.putfield 192, 3) := by decide +kernel
theorem d_Mt_read_110 : decode b_Mt_read 110 = .ok (.aload_n 0, 1) := by decide +kernel
theorem d_Mt_read_111 : decode b_Mt_read 111 = .ok (.iconst 0, 1) := by decide +kernel
theorem d_Mt_read_112 : decode b_Mt_read 112 = .ok (.putfield 271, 3) := by decide +kernel
theorem d_Mt_read_115 : decode b_Mt_read 115 = .ok (.aload_n 0, 1) := by decide +kernel
theorem d_Mt_read_116 : decode b_Mt_read 116 = .ok (.iconst 0, 1) := by decide +kernel
theorem d_Mt_read_117 : decode b_Mt_read 117 = .ok (.putfield 78, 3) := by decide +kernel
theorem d_Mt_read_120 : decode b_Mt_read 120 = .ok (.aload_n 0, 1) := by decide +kernel
theorem d_Mt_read_121 : decode b_Mt_read 121 = .ok (.iconst (-1), 1) := by decide +kernel
theorem d_Mt_read_122 : decode b_Mt_read 122 = .ok (.putfield 82, 3) := by decide +kernel
theorem d_Mt_read_125 : decode b_Mt_read 125 = .ok (.aload_n 0, 1) := by decide +kernel
theorem d_Mt_read_126 : decode b_Mt_read 126 = .ok (.iconst 0, 1) := by decide +kernel
theorem d_Mt_read_127 : decode b_Mt_read 127 = .ok (.putfield 280, 3) := by decide +kernel
theorem d_Mt_read_130 : decode b_Mt_read 130 = .ok (.aload_n 0, 1) := by decide +kernel
theorem d_Mt_read_131 : decode b_Mt_read 131 = .ok (.invokevirtual 283, 3) := by decide +kernel
theorem d_Mt_read_134 : decode b_Mt_read 134 = .ok (.goto 10, 3) := by decide +kernel
theorem d_Mt_read_137 : decode b_Mt_read 137 = .ok (.astore 4, 2) := by decide +kernel
theorem d_Mt_read_139 : decode b_Mt_read 139 = .ok (.aload_n 0, 1) := by decide +kernel
theorem d_Mt_read_140 : decode b_Mt_read 140 = .ok (.getfield 78, 3) := by decide +kernel
theorem d_Mt_read_143 : decode b_Mt_read 143 = .ok (.ireturn, 1) := by decide +kernel
theorem d_Mt_read_144 : decode b_Mt_read 144 = .ok (.iconst 0, 1) := by decide +kernel
theorem d_Mt_read_145 : decode b_Mt_read 145 = .ok (.istore 4, 2) := by decide +kernel
theorem d_Mt_read_147 : decode b_Mt_read 147 = .ok (.iload 4, 2) := by decide +kernel
theorem d_Mt_read_149 : decode b_Mt_read 149 = .ok (.aload_n 0, 1) := by decide +kernel
theorem d_Mt_read_150 : decode b_Mt_read 150 = .ok (.getfield 189, 3) := by decide +kernel
theorem d_Mt_read_153 : decode b_Mt_read 153 = .ok (.if_icmp .ge 17, 3) := by decide +kernel
theorem d_Mt_read_156 : decode b_Mt_read 156 = .ok (.aload_n 0, 1) := by decide +kernel
theorem d_Mt_read_157 : decode b_Mt_read 157 = .ok (.getfield 74, 3) := by decide +kernel
theorem d_Mt_read_160 : decode b_Mt_read 160 = .ok (.iload 4, 2) := by decide +kernel
theorem d_Mt_read_162 : decode b_Mt_read 162 = .ok (.iconst 0, 1) := by decide +kernel
theorem d_Mt_read_163 : decode b_Mt_read 163 = .ok (.bastore, 1) := by decide +kernel
theorem d_Mt_read_164 : decode b_Mt_read 164 = .ok (.iinc 4 1, 3) := by decide +kernel
theorem d_Mt_read_167 : decode b_Mt_read 167 = .ok (.goto (-20), 3) := by decide +kernel
theorem d_Mt_read_170 : decode b_Mt_read 170 = .ok (.aload_n 0, 1) := by decide +kernel
theorem d_Mt_read_171 : decode b_Mt_read 171 = .ok (.aload_n 0, 1) := by decide +kernel
theorem d_Mt_read_172 : decode b_Mt_read 172 = .ok (.getfield 286, 3) := by decide +kernel
theorem d_Mt_read_175 : decode b_Mt_read 175 = .ok (.invokevirtual 289, 3) := by decide +kernel
theorem d_Mt_read_178 : decode b_Mt_read 178 = .ok (.iconst 0, 1) := by decide +kernel
theorem d_Mt_read_179 : decode b_Mt_read 179 = .ok (.ireturn, 1) := by decide +kernel
