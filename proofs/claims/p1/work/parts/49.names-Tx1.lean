/-! names: methods, their instructions, words -/
theorem mw_101 : Cond.fieldLink "RecordLake$Text" 67 "RecordLake$Text" "place" "I" ∈ gW := gw_of (List.mem_of_getElem? (i := 101) (by decide +kernel)) (by decide +kernel)
theorem mw_105 : Cond.fieldLink "RecordLake$Text" 57 "RecordLake$Text" "length" "I" ∈ gW := gw_of (List.mem_of_getElem? (i := 105) (by decide +kernel)) (by decide +kernel)
theorem mw_106 : Cond.fieldLink "RecordLake$Text" 60 "RecordLake$Text" "at" "I" ∈ gW := gw_of (List.mem_of_getElem? (i := 106) (by decide +kernel)) (by decide +kernel)
theorem mw_553 : Cond.code ⟨"RecordLake$Text", "value", "(I)I"⟩ prog_12_method_15_code 3 (some .int) ∈ gW := gw_of (List.mem_of_getElem? (i := 553) (by decide +kernel)) (by decide +kernel)
theorem mw_554 : Cond.methodLink "RecordLake$Text" 80 ⟨"RecordLake$Text", "skipBlanks", "()V"⟩ ∈ gW := gw_of (List.mem_of_getElem? (i := 554) (by decide +kernel)) (by decide +kernel)
theorem mw_556 : Cond.instanceMethod ⟨"RecordLake$Text", "skipBlanks", "()V"⟩ ∈ gW := gw_of (List.mem_of_getElem? (i := 556) (by decide +kernel)) (by decide +kernel)
theorem mw_557 : Cond.code ⟨"RecordLake$Text", "skipBlanks", "()V"⟩ prog_12_method_10_code 1 none ∈ gW := gw_of (List.mem_of_getElem? (i := 557) (by decide +kernel)) (by decide +kernel)
theorem mw_558 : Cond.methodLink "RecordLake$Text" 103 ⟨"RecordLake$Text", "peek", "()I"⟩ ∈ gW := gw_of (List.mem_of_getElem? (i := 558) (by decide +kernel)) (by decide +kernel)
theorem mw_560 : Cond.instanceMethod ⟨"RecordLake$Text", "peek", "()I"⟩ ∈ gW := gw_of (List.mem_of_getElem? (i := 560) (by decide +kernel)) (by decide +kernel)
theorem mw_561 : Cond.code ⟨"RecordLake$Text", "peek", "()I"⟩ prog_12_method_9_code 1 (some .int) ∈ gW := gw_of (List.mem_of_getElem? (i := 561) (by decide +kernel)) (by decide +kernel)
theorem mw_569 : Cond.methodLink "RecordLake$Text" 83 ⟨"RecordLake$Text", "failHere", "()I"⟩ ∈ gW := gw_of (List.mem_of_getElem? (i := 569) (by decide +kernel)) (by decide +kernel)
theorem mw_571 : Cond.instanceMethod ⟨"RecordLake$Text", "failHere", "()I"⟩ ∈ gW := gw_of (List.mem_of_getElem? (i := 571) (by decide +kernel)) (by decide +kernel)
theorem mw_572 : Cond.code ⟨"RecordLake$Text", "failHere", "()I"⟩ prog_12_method_8_code 1 (some .int) ∈ gW := gw_of (List.mem_of_getElem? (i := 572) (by decide +kernel)) (by decide +kernel)
theorem mw_679 : Cond.methodLink "RecordLake$Text" 129 ⟨"RecordLake$Text", "isDigit", "(I)Z"⟩ ∈ gW := gw_of (List.mem_of_getElem? (i := 679) (by decide +kernel)) (by decide +kernel)
theorem mw_680 : Cond.static ⟨"RecordLake$Text", "isDigit", "(I)Z"⟩ ∈ gW := gw_of (List.mem_of_getElem? (i := 680) (by decide +kernel)) (by decide +kernel)
theorem mw_681 : Cond.code ⟨"RecordLake$Text", "isDigit", "(I)Z"⟩ prog_12_method_12_code 1 (some .boolean) ∈ gW := gw_of (List.mem_of_getElem? (i := 681) (by decide +kernel)) (by decide +kernel)
theorem ms_2 : Cond.selects "RecordLake$Text" ⟨"RecordLake$Text", "skipBlanks", "()V"⟩ ⟨"RecordLake$Text", "skipBlanks", "()V"⟩ ∈ gW := gw_sel (List.mem_of_getElem? (i := 2) (by decide +kernel)) (by decide +kernel)
theorem ms_3 : Cond.selects "RecordLake$Text" ⟨"RecordLake$Text", "peek", "()I"⟩ ⟨"RecordLake$Text", "peek", "()I"⟩ ∈ gW := gw_sel (List.mem_of_getElem? (i := 3) (by decide +kernel)) (by decide +kernel)
theorem ms_5 : Cond.selects "RecordLake$Text" ⟨"RecordLake$Text", "failHere", "()I"⟩ ⟨"RecordLake$Text", "failHere", "()I"⟩ ∈ gW := gw_sel (List.mem_of_getElem? (i := 5) (by decide +kernel)) (by decide +kernel)
abbrev b_Tx_isDigit : ByteArray := prog_12_method_12_code
abbrev y_Tx_isDigit : MethodName := ⟨"RecordLake$Text", "isDigit", "(I)Z"⟩
abbrev w_Tx_isDigit : List Cond := Cond.code y_Tx_isDigit b_Tx_isDigit 1 (some .boolean) :: gW
theorem d_Tx_isDigit_0 : decode b_Tx_isDigit 0 = .ok (.iload_n 0, 1) := by decide +kernel
theorem d_Tx_isDigit_1 : decode b_Tx_isDigit 1 = .ok (.bipush 48, 2) := by decide +kernel
theorem d_Tx_isDigit_3 : decode b_Tx_isDigit 3 = .ok (.if_icmp .lt 13, 3) := by decide +kernel
theorem d_Tx_isDigit_6 : decode b_Tx_isDigit 6 = .ok (.iload_n 0, 1) := by decide +kernel
theorem d_Tx_isDigit_7 : decode b_Tx_isDigit 7 = .ok (.bipush 57, 2) := by decide +kernel
theorem d_Tx_isDigit_9 : decode b_Tx_isDigit 9 = .ok (.if_icmp .gt 7, 3) := by decide +kernel
theorem d_Tx_isDigit_12 : decode b_Tx_isDigit 12 = .ok (.iconst 1, 1) := by decide +kernel
theorem d_Tx_isDigit_13 : decode b_Tx_isDigit 13 = .ok (.goto 4, 3) := by decide +kernel
theorem d_Tx_isDigit_16 : decode b_Tx_isDigit 16 = .ok (.iconst 0, 1) := by decide +kernel
theorem d_Tx_isDigit_17 : decode b_Tx_isDigit 17 = .ok (.ireturn, 1) := by decide +kernel
abbrev b_Tx_peek : ByteArray := prog_12_method_9_code
abbrev y_Tx_peek : MethodName := ⟨"RecordLake$Text", "peek", "()I"⟩
abbrev w_Tx_peek : List Cond := Cond.code y_Tx_peek b_Tx_peek 1 (some .int) :: gW
theorem d_Tx_peek_0 : decode b_Tx_peek 0 = .ok (.aload_n 0, 1) := by decide +kernel
theorem d_Tx_peek_1 : decode b_Tx_peek 1 = .ok (.getfield 60, 3) := by decide +kernel
theorem d_Tx_peek_4 : decode b_Tx_peek 4 = .ok (.aload_n 0, 1) := by decide +kernel
theorem d_Tx_peek_5 : decode b_Tx_peek 5 = .ok (.getfield 57, 3) := by decide +kernel
theorem d_Tx_peek_8 : decode b_Tx_peek 8 = .ok (.if_icmp .ge 24, 3) := by decide +kernel
theorem d_Tx_peek_11 : decode b_Tx_peek 11 = .ok (.aload_n 0, 1) := by decide +kernel
theorem d_Tx_peek_12 : decode b_Tx_peek 12 = .ok (.getfield 44, 3) := by decide +kernel
theorem d_Tx_peek_15 : decode b_Tx_peek 15 = .ok (.aload_n 0, 1) := by decide +kernel
theorem d_Tx_peek_16 : decode b_Tx_peek 16 = .ok (.getfield 47, 3) := by decide +kernel
theorem d_Tx_peek_19 : decode b_Tx_peek 19 = .ok (.aload_n 0, 1) := by decide +kernel
theorem d_Tx_peek_20 : decode b_Tx_peek 20 = .ok (.getfield 60, 3) := by decide +kernel
theorem d_Tx_peek_23 : decode b_Tx_peek 23 = .ok (.iadd, 1) := by decide +kernel
theorem d_Tx_peek_24 : decode b_Tx_peek 24 = .ok (.baload, 1) := by decide +kernel
theorem d_Tx_peek_25 : decode b_Tx_peek 25 = .ok (.sipush 255, 3) := by decide +kernel
theorem d_Tx_peek_28 : decode b_Tx_peek 28 = .ok (.iand, 1) := by decide +kernel
theorem d_Tx_peek_29 : decode b_Tx_peek 29 = .ok (.goto 4, 3) := by decide +kernel
theorem d_Tx_peek_32 : decode b_Tx_peek 32 = .ok (.iconst (-1), 1) := by decide +kernel
theorem d_Tx_peek_33 : decode b_Tx_peek 33 = .ok (.ireturn, 1) := by decide +kernel
abbrev b_Tx_skipBlanks : ByteArray := prog_12_method_10_code
abbrev y_Tx_skipBlanks : MethodName := ⟨"RecordLake$Text", "skipBlanks", "()V"⟩
abbrev w_Tx_skipBlanks : List Cond := Cond.code y_Tx_skipBlanks b_Tx_skipBlanks 1 none :: gW
theorem d_Tx_skipBlanks_0 : decode b_Tx_skipBlanks 0 = .ok (.aload_n 0, 1) := by decide +kernel
theorem d_Tx_skipBlanks_1 : decode b_Tx_skipBlanks 1 = .ok (.getfield 60, 3) := by decide +kernel
theorem d_Tx_skipBlanks_4 : decode b_Tx_skipBlanks 4 = .ok (.aload_n 0, 1) := by decide +kernel
theorem d_Tx_skipBlanks_5 : decode b_Tx_skipBlanks 5 = .ok (.getfield 57, 3) := by decide +kernel
theorem d_Tx_skipBlanks_8 : decode b_Tx_skipBlanks 8 = .ok (.if_icmp .ge 26, 3) := by decide +kernel
theorem d_Tx_skipBlanks_11 : decode b_Tx_skipBlanks 11 = .ok (.aload_n 0, 1) := by decide +kernel
theorem d_Tx_skipBlanks_12 : decode b_Tx_skipBlanks 12 = .ok (.invokevirtual 103, 3) := by decide +kernel
theorem d_Tx_skipBlanks_15 : decode b_Tx_skipBlanks 15 = .ok (.invokestatic 106, 3) := by decide +kernel
theorem d_Tx_skipBlanks_18 : decode b_Tx_skipBlanks 18 = .ok (.ifCond .eq 16, 3) := by decide +kernel
theorem d_Tx_skipBlanks_21 : decode b_Tx_skipBlanks 21 = .ok (.aload_n 0, 1) := by decide +kernel
theorem d_Tx_skipBlanks_22 : decode b_Tx_skipBlanks 22 = .ok (.dup, 1) := by decide +kernel
theorem d_Tx_skipBlanks_23 : decode b_Tx_skipBlanks 23 = .ok (.getfield 60, 3) := by decide +kernel
theorem d_Tx_skipBlanks_26 : decode b_Tx_skipBlanks 26 = .ok (.iconst 1, 1) := by decide +kernel
theorem d_Tx_skipBlanks_27 : decode b_Tx_skipBlanks 27 = .ok (.iadd, 1) := by decide +kernel
theorem d_Tx_skipBlanks_28 : decode b_Tx_skipBlanks 28 = .ok (.putfield 60, 3) := by decide +kernel
theorem d_Tx_skipBlanks_31 : decode b_Tx_skipBlanks 31 = .ok (.goto (-31), 3) := by decide +kernel
theorem d_Tx_skipBlanks_34 : decode b_Tx_skipBlanks 34 = .ok (.return_, 1) := by decide +kernel
abbrev b_Tx_failHere : ByteArray := prog_12_method_8_code
abbrev y_Tx_failHere : MethodName := ⟨"RecordLake$Text", "failHere", "()I"⟩
abbrev w_Tx_failHere : List Cond := Cond.code y_Tx_failHere b_Tx_failHere 1 (some .int) :: gW
theorem d_Tx_failHere_0 : decode b_Tx_failHere 0 = .ok (.aload_n 0, 1) := by decide +kernel
theorem d_Tx_failHere_1 : decode b_Tx_failHere 1 = .ok (.aload_n 0, 1) := by decide +kernel
theorem d_Tx_failHere_2 : decode b_Tx_failHere 2 = .ok (.getfield 60, 3) := by decide +kernel
theorem d_Tx_failHere_5 : decode b_Tx_failHere 5 = .ok (.putfield 67, 3) := by decide +kernel
theorem d_Tx_failHere_8 : decode b_Tx_failHere 8 = .ok (.iconst (-1), 1) := by decide +kernel
theorem d_Tx_failHere_9 : decode b_Tx_failHere 9 = .ok (.ireturn, 1) := by decide +kernel
abbrev b_Tx_value : ByteArray := prog_12_method_15_code
abbrev y_Tx_value : MethodName := ⟨"RecordLake$Text", "value", "(I)I"⟩
abbrev w_Tx_value : List Cond := Cond.code y_Tx_value b_Tx_value 3 (some .int) :: gW
theorem d_Tx_value_0 : decode b_Tx_value 0 = .ok (.aload_n 0, 1) := by decide +kernel
theorem d_Tx_value_1 : decode b_Tx_value 1 = .ok (.invokevirtual 80, 3) := by decide +kernel
theorem d_Tx_value_4 : decode b_Tx_value 4 = .ok (.aload_n 0, 1) := by decide +kernel
theorem d_Tx_value_5 : decode b_Tx_value 5 = .ok (.invokevirtual 103, 3) := by decide +kernel
theorem d_Tx_value_8 : decode b_Tx_value 8 = .ok (.istore_n 2, 1) := by decide +kernel
theorem d_Tx_value_9 : decode b_Tx_value 9 = .ok (.iload_n 2, 1) := by decide +kernel
theorem d_Tx_value_10 : decode b_Tx_value 10 = .ok (.lookupswitch 100 #[(34, 70), (91, 64), (102, 83), (110, 91), (116, 75), (123, 58)], 58) := by decide +kernel
theorem d_Tx_value_68 : decode b_Tx_value 68 = .ok (.aload_n 0, 1) := by decide +kernel
theorem d_Tx_value_69 : decode b_Tx_value 69 = .ok (.iload_n 1, 1) := by decide +kernel
theorem d_Tx_value_70 : decode b_Tx_value 70 = .ok (.invokevirtual 110, 3) := by decide +kernel
theorem d_Tx_value_73 : decode b_Tx_value 73 = .ok (.ireturn, 1) := by decide +kernel
theorem d_Tx_value_74 : decode b_Tx_value 74 = .ok (.aload_n 0, 1) := by decide +kernel
theorem d_Tx_value_75 : decode b_Tx_value 75 = .ok (.iload_n 1, 1) := by decide +kernel
theorem d_Tx_value_76 : decode b_Tx_value 76 = .ok (.invokevirtual 113, 3) := by decide +kernel
theorem d_Tx_value_79 : decode b_Tx_value 79 = .ok (.ireturn, 1) := by decide +kernel
theorem d_Tx_value_80 : decode b_Tx_value 80 = .ok (.aload_n 0, 1) := by decide +kernel
theorem d_Tx_value_81 : decode b_Tx_value 81 = .ok (.invokevirtual 116, 3) := by decide +kernel
theorem d_Tx_value_84 : decode b_Tx_value 84 = .ok (.ireturn, 1) := by decide +kernel
theorem d_Tx_value_85 : decode b_Tx_value 85 = .ok (.aload_n 0, 1) := by decide +kernel
theorem d_Tx_value_86 : decode b_Tx_value 86 = .ok (.ldc 119, 2) := by decide +kernel
theorem d_Tx_value_88 : decode b_Tx_value 88 = .ok (.iconst 4, 1) := by decide +kernel
theorem d_Tx_value_89 : decode b_Tx_value 89 = .ok (.invokevirtual 121, 3) := by decide +kernel
theorem d_Tx_value_92 : decode b_Tx_value 92 = .ok (.ireturn, 1) := by decide +kernel
theorem d_Tx_value_93 : decode b_Tx_value 93 = .ok (.aload_n 0, 1) := by decide +kernel
theorem d_Tx_value_94 : decode b_Tx_value 94 = .ok (.ldc 125, 2) := by decide +kernel
theorem d_Tx_value_96 : decode b_Tx_value 96 = .ok (.iconst 5, 1) := by decide +kernel
theorem d_Tx_value_97 : decode b_Tx_value 97 = .ok (.invokevirtual 121, 3) := by decide +kernel
theorem d_Tx_value_100 : decode b_Tx_value 100 = .ok (.ireturn, 1) := by decide +kernel
theorem d_Tx_value_101 : decode b_Tx_value 101 = .ok (.aload_n 0, 1) := by decide +kernel
theorem d_Tx_value_102 : decode b_Tx_value 102 = .ok (.ldc 127, 2) := by decide +kernel
theorem d_Tx_value_104 : decode b_Tx_value 104 = .ok (.bipush 6, 2) := by decide +kernel
theorem d_Tx_value_106 : decode b_Tx_value 106 = .ok (.invokevirtual 121, 3) := by decide +kernel
theorem d_Tx_value_109 : decode b_Tx_value 109 = .ok (.ireturn, 1) := by decide +kernel
theorem d_Tx_value_110 : decode b_Tx_value 110 = .ok (.iload_n 2, 1) := by decide +kernel
theorem d_Tx_value_111 : decode b_Tx_value 111 = .ok (.bipush 45, 2) := by decide +kernel
theorem d_Tx_value_113 : decode b_Tx_value 113 = .ok (.if_icmp .eq 10, 3) := by decide +kernel
theorem d_Tx_value_116 : decode b_Tx_value 116 = .ok (.iload_n 2, 1) := by decide +kernel
theorem d_Tx_value_117 : decode b_Tx_value 117 = .ok (.invokestatic 129, 3) := by decide +kernel
theorem d_Tx_value_120 : decode b_Tx_value 120 = .ok (.ifCond .eq 10, 3) := by decide +kernel
theorem d_Tx_value_123 : decode b_Tx_value 123 = .ok (.aload_n 0, 1) := by decide +kernel
theorem d_Tx_value_124 : decode b_Tx_value 124 = .ok (.invokevirtual 132, 3) := by decide +kernel
theorem d_Tx_value_127 : decode b_Tx_value 127 = .ok (.goto 7, 3) := by decide +kernel
theorem d_Tx_value_130 : decode b_Tx_value 130 = .ok (.aload_n 0, 1) := by decide +kernel
theorem d_Tx_value_131 : decode b_Tx_value 131 = .ok (.invokevirtual 83, 3) := by decide +kernel
theorem d_Tx_value_134 : decode b_Tx_value 134 = .ok (.ireturn, 1) := by decide +kernel
