/-! names: methods, their instructions, words -/
theorem mw_14 : Cond.initialized "RecordLakeModel$Text" ∈ gW := gw_of (List.mem_of_getElem? (i := 14) (by decide +kernel)) (by decide +kernel)
theorem mw_1580 : Cond.code ⟨"RecordLakeModel", "<init>", "()V"⟩ prog_14_method_1_code 1 none ∈ gW := gw_of (List.mem_of_getElem? (i := 1580) (by decide +kernel)) (by decide +kernel)
theorem mw_1581 : Cond.methodLink "RecordLakeModel" 1 ⟨"java/lang/Object", "<init>", "()V"⟩ ∈ gW := gw_of (List.mem_of_getElem? (i := 1581) (by decide +kernel)) (by decide +kernel)
theorem mw_1582 : Cond.classLink "RecordLakeModel" 17 "RecordLakeModel$Text" ∈ gW := gw_of (List.mem_of_getElem? (i := 1582) (by decide +kernel)) (by decide +kernel)
theorem mw_1583 : Cond.instantiable "RecordLakeModel$Text" 35 ∈ gW := gw_of (List.mem_of_getElem? (i := 1583) (by decide +kernel)) (by decide +kernel)
theorem mw_1585 : Cond.instanceMethod ⟨"RecordLakeModel$Text", "<init>", "()V"⟩ ∈ gW := gw_of (List.mem_of_getElem? (i := 1585) (by decide +kernel)) (by decide +kernel)
theorem mw_1586 : Cond.code ⟨"RecordLakeModel$Text", "<init>", "()V"⟩ prog_15_method_1_code 1 none ∈ gW := gw_of (List.mem_of_getElem? (i := 1586) (by decide +kernel)) (by decide +kernel)
theorem mw_1587 : Cond.methodLink "RecordLakeModel$Text" 3 ⟨"java/lang/Object", "<init>", "()V"⟩ ∈ gW := gw_of (List.mem_of_getElem? (i := 1587) (by decide +kernel)) (by decide +kernel)
theorem mw_1588 : Cond.fieldLink "RecordLakeModel$Text" 9 "RecordLakeModel$Text" "bytes" "[B" ∈ gW := gw_of (List.mem_of_getElem? (i := 1588) (by decide +kernel)) (by decide +kernel)
theorem mw_1598 : Cond.fieldLink "RecordLakeModel$Text" 15 "RecordLakeModel$Text" "kinds" "[I" ∈ gW := gw_of (List.mem_of_getElem? (i := 1598) (by decide +kernel)) (by decide +kernel)
theorem mw_1600 : Cond.fieldLink "RecordLakeModel$Text" 19 "RecordLakeModel$Text" "firsts" "[I" ∈ gW := gw_of (List.mem_of_getElem? (i := 1600) (by decide +kernel)) (by decide +kernel)
theorem mw_1601 : Cond.fieldLink "RecordLakeModel$Text" 22 "RecordLakeModel$Text" "numbers" "[J" ∈ gW := gw_of (List.mem_of_getElem? (i := 1601) (by decide +kernel)) (by decide +kernel)
theorem mw_1603 : Cond.fieldLink "RecordLakeModel$Text" 26 "RecordLakeModel$Text" "sizes" "[I" ∈ gW := gw_of (List.mem_of_getElem? (i := 1603) (by decide +kernel)) (by decide +kernel)
theorem mw_1605 : Cond.fieldLink "RecordLakeModel$Text" 29 "RecordLakeModel$Text" "inner" "[I" ∈ gW := gw_of (List.mem_of_getElem? (i := 1605) (by decide +kernel)) (by decide +kernel)
theorem mw_1607 : Cond.fieldLink "RecordLakeModel$Text" 32 "RecordLakeModel$Text" "nexts" "[I" ∈ gW := gw_of (List.mem_of_getElem? (i := 1607) (by decide +kernel)) (by decide +kernel)
theorem mw_1609 : Cond.fieldLink "RecordLakeModel$Text" 35 "RecordLakeModel$Text" "letters" "[B" ∈ gW := gw_of (List.mem_of_getElem? (i := 1609) (by decide +kernel)) (by decide +kernel)
theorem mw_1614 : Cond.fieldLink "RecordLakeModel$Text" 38 "RecordLakeModel$Text" "sorts" "[I" ∈ gW := gw_of (List.mem_of_getElem? (i := 1614) (by decide +kernel)) (by decide +kernel)
theorem mw_1616 : Cond.fieldLink "RecordLakeModel$Text" 41 "RecordLakeModel$Text" "names" "[I" ∈ gW := gw_of (List.mem_of_getElem? (i := 1616) (by decide +kernel)) (by decide +kernel)
theorem mw_1618 : Cond.fieldLink "RecordLakeModel$Text" 44 "RecordLakeModel$Text" "wide" "[I" ∈ gW := gw_of (List.mem_of_getElem? (i := 1618) (by decide +kernel)) (by decide +kernel)
theorem mw_1620 : Cond.fieldLink "RecordLakeModel$Text" 47 "RecordLakeModel$Text" "kids" "[I" ∈ gW := gw_of (List.mem_of_getElem? (i := 1620) (by decide +kernel)) (by decide +kernel)
theorem mw_1622 : Cond.fieldLink "RecordLakeModel$Text" 50 "RecordLakeModel$Text" "many" "[I" ∈ gW := gw_of (List.mem_of_getElem? (i := 1622) (by decide +kernel)) (by decide +kernel)
theorem mw_1624 : Cond.fieldLink "RecordLakeModel$Text" 53 "RecordLakeModel$Text" "fallback" "[I" ∈ gW := gw_of (List.mem_of_getElem? (i := 1624) (by decide +kernel)) (by decide +kernel)
theorem mw_1627 : Cond.fieldLink "RecordLakeModel$Text" 56 "RecordLakeModel$Text" "kidShape" "[I" ∈ gW := gw_of (List.mem_of_getElem? (i := 1627) (by decide +kernel)) (by decide +kernel)
theorem mw_1629 : Cond.fieldLink "RecordLakeModel$Text" 59 "RecordLakeModel$Text" "kidName" "[I" ∈ gW := gw_of (List.mem_of_getElem? (i := 1629) (by decide +kernel)) (by decide +kernel)
theorem mw_1631 : Cond.fieldLink "RecordLakeModel$Text" 62 "RecordLakeModel$Text" "kidDefault" "[I" ∈ gW := gw_of (List.mem_of_getElem? (i := 1631) (by decide +kernel)) (by decide +kernel)
theorem mw_1633 : Cond.fieldLink "RecordLakeModel$Text" 65 "RecordLakeModel$Text" "kidNext" "[I" ∈ gW := gw_of (List.mem_of_getElem? (i := 1633) (by decide +kernel)) (by decide +kernel)
theorem mw_1636 : Cond.fieldLink "RecordLakeModel$Text" 68 "RecordLakeModel$Text" "finished" "[I" ∈ gW := gw_of (List.mem_of_getElem? (i := 1636) (by decide +kernel)) (by decide +kernel)
theorem mw_1639 : Cond.fieldLink "RecordLakeModel$Text" 71 "RecordLakeModel$Text" "plain" "[B" ∈ gW := gw_of (List.mem_of_getElem? (i := 1639) (by decide +kernel)) (by decide +kernel)
theorem mw_1643 : Cond.fieldLink "RecordLakeModel$Text" 74 "RecordLakeModel$Text" "told" "[Z" ∈ gW := gw_of (List.mem_of_getElem? (i := 1643) (by decide +kernel)) (by decide +kernel)
theorem mw_1715 : Cond.constant "RecordLakeModel" 58 (32768 : Int32) ∈ gW := gw_of (List.mem_of_getElem? (i := 1715) (by decide +kernel)) (by decide +kernel)
theorem mw_1717 : Cond.fieldLink "RecordLakeModel" 7 "RecordLakeModel" "tape" "[B" ∈ gW := gw_of (List.mem_of_getElem? (i := 1717) (by decide +kernel)) (by decide +kernel)
theorem mw_1719 : Cond.fieldLink "RecordLakeModel" 13 "RecordLakeModel" "place" "I" ∈ gW := gw_of (List.mem_of_getElem? (i := 1719) (by decide +kernel)) (by decide +kernel)
theorem mw_1720 : Cond.fieldLink "RecordLakeModel" 20 "RecordLakeModel" "typed" "LRecordLakeModel$Text;" ∈ gW := gw_of (List.mem_of_getElem? (i := 1720) (by decide +kernel)) (by decide +kernel)
theorem mw_1721 : Cond.fieldLink "RecordLakeModel" 24 "RecordLakeModel" "left" "LRecordLakeModel$Text;" ∈ gW := gw_of (List.mem_of_getElem? (i := 1721) (by decide +kernel)) (by decide +kernel)
theorem mw_1722 : Cond.fieldLink "RecordLakeModel" 27 "RecordLakeModel" "right" "LRecordLakeModel$Text;" ∈ gW := gw_of (List.mem_of_getElem? (i := 1722) (by decide +kernel)) (by decide +kernel)
theorem mw_1723 : Cond.fieldLink "RecordLakeModel" 30 "RecordLakeModel" "plain" "[B" ∈ gW := gw_of (List.mem_of_getElem? (i := 1723) (by decide +kernel)) (by decide +kernel)
theorem mw_1725 : Cond.fieldLink "RecordLakeModel" 33 "RecordLakeModel" "out" "[B" ∈ gW := gw_of (List.mem_of_getElem? (i := 1725) (by decide +kernel)) (by decide +kernel)
theorem mw_1728 : Cond.fieldLink "RecordLakeModel" 36 "RecordLakeModel" "power" "I" ∈ gW := gw_of (List.mem_of_getElem? (i := 1728) (by decide +kernel)) (by decide +kernel)
theorem mw_1729 : Cond.fieldLink "RecordLakeModel" 78 "RecordLakeModel" "files" "I" ∈ gW := gw_of (List.mem_of_getElem? (i := 1729) (by decide +kernel)) (by decide +kernel)
theorem mw_1730 : Cond.fieldLink "RecordLakeModel" 39 "RecordLakeModel" "subjectOf" "[I" ∈ gW := gw_of (List.mem_of_getElem? (i := 1730) (by decide +kernel)) (by decide +kernel)
theorem mw_1731 : Cond.fieldLink "RecordLakeModel" 43 "RecordLakeModel" "versionOf" "[I" ∈ gW := gw_of (List.mem_of_getElem? (i := 1731) (by decide +kernel)) (by decide +kernel)
theorem mw_1732 : Cond.fieldLink "RecordLakeModel" 46 "RecordLakeModel" "blockOf" "[I" ∈ gW := gw_of (List.mem_of_getElem? (i := 1732) (by decide +kernel)) (by decide +kernel)
theorem mw_1733 : Cond.fieldLink "RecordLakeModel" 49 "RecordLakeModel" "wants" "[I" ∈ gW := gw_of (List.mem_of_getElem? (i := 1733) (by decide +kernel)) (by decide +kernel)
theorem mw_1734 : Cond.fieldLink "RecordLakeModel" 52 "RecordLakeModel" "rowsOf" "[I" ∈ gW := gw_of (List.mem_of_getElem? (i := 1734) (by decide +kernel)) (by decide +kernel)
theorem mw_1735 : Cond.fieldLink "RecordLakeModel" 55 "RecordLakeModel" "sizeOf" "[I" ∈ gW := gw_of (List.mem_of_getElem? (i := 1735) (by decide +kernel)) (by decide +kernel)
theorem mw_1736 : Cond.fieldLink "RecordLakeModel" 59 "RecordLakeModel" "disk" "[B" ∈ gW := gw_of (List.mem_of_getElem? (i := 1736) (by decide +kernel)) (by decide +kernel)
theorem mw_1737 : Cond.fieldLink "RecordLakeModel" 62 "RecordLakeModel" "made" "[B" ∈ gW := gw_of (List.mem_of_getElem? (i := 1737) (by decide +kernel)) (by decide +kernel)
theorem mw_1744 : Cond.fieldLink "RecordLakeModel" 65 "RecordLakeModel" "asked" "[Z" ∈ gW := gw_of (List.mem_of_getElem? (i := 1744) (by decide +kernel)) (by decide +kernel)
theorem mw_1745 : Cond.fieldLink "RecordLakeModel" 69 "RecordLakeModel" "pairs" "[I" ∈ gW := gw_of (List.mem_of_getElem? (i := 1745) (by decide +kernel)) (by decide +kernel)
theorem mw_1749 : Cond.fieldLink "RecordLakeModel" 72 "RecordLakeModel" "all" "[B" ∈ gW := gw_of (List.mem_of_getElem? (i := 1749) (by decide +kernel)) (by decide +kernel)
theorem mw_1750 : Cond.fieldLink "RecordLakeModel" 75 "RecordLakeModel" "away" "[B" ∈ gW := gw_of (List.mem_of_getElem? (i := 1750) (by decide +kernel)) (by decide +kernel)
theorem nw_1584 : Cond.methodLinkNest "RecordLakeModel" 19 ⟨"RecordLakeModel$Text", "<init>", "()V"⟩ "RecordLakeModel" ∈ nW := nw_of (List.mem_of_getElem? (i := 1584) (by decide +kernel)) rfl
abbrev b_Mt_init : ByteArray := prog_15_method_1_code
abbrev y_Mt_init : MethodName := ⟨"RecordLakeModel$Text", "<init>", "()V"⟩
abbrev w_Mt_init : List Cond := Cond.code y_Mt_init b_Mt_init 1 none :: gW
theorem d_Mt_init_0 : decode b_Mt_init 0 = .ok (.aload_n 0, 1) := by decide +kernel
theorem d_Mt_init_1 : decode b_Mt_init 1 = .ok (.invokespecial 3, 3) := by decide +kernel
theorem d_Mt_init_4 : decode b_Mt_init 4 = .ok (.aload_n 0, 1) := by decide +kernel
theorem d_Mt_init_5 : decode b_Mt_init 5 = .ok (.sipush 4096, 3) := by decide +kernel
theorem d_Mt_init_8 : decode b_Mt_init 8 = .ok (.newarray .byte, 2) := by decide +kernel
theorem d_Mt_init_10 : decode b_Mt_init 10 = .ok (.putfield 9, 3) := by decide +kernel
theorem d_Mt_init_13 : decode b_Mt_init 13 = .ok (.aload_n 0, 1) := by decide +kernel
theorem d_Mt_init_14 : decode b_Mt_init 14 = .ok (.sipush 4200, 3) := by decide +kernel
theorem d_Mt_init_17 : decode b_Mt_init 17 = .ok (.newarray .int, 2) := by decide +kernel
theorem d_Mt_init_19 : decode b_Mt_init 19 = .ok (.putfield 15, 3) := by decide +kernel
theorem d_Mt_init_22 : decode b_Mt_init 22 = .ok (.aload_n 0, 1) := by decide +kernel
theorem d_Mt_init_23 : decode b_Mt_init 23 = .ok (.sipush 4200, 3) := by decide +kernel
theorem d_Mt_init_26 : decode b_Mt_init 26 = .ok (.newarray .int, 2) := by decide +kernel
theorem d_Mt_init_28 : decode b_Mt_init 28 = .ok (.putfield 19, 3) := by decide +kernel
theorem d_Mt_init_31 : decode b_Mt_init 31 = .ok (.aload_n 0, 1) := by decide +kernel
theorem d_Mt_init_32 : decode b_Mt_init 32 = .ok (.sipush 4200, 3) := by decide +kernel
theorem d_Mt_init_35 : decode b_Mt_init 35 = .ok (.newarray .long, 2) := by decide +kernel
theorem d_Mt_init_37 : decode b_Mt_init 37 = .ok (.putfield 22, 3) := by decide +kernel
theorem d_Mt_init_40 : decode b_Mt_init 40 = .ok (.aload_n 0, 1) := by decide +kernel
theorem d_Mt_init_41 : decode b_Mt_init 41 = .ok (.sipush 4200, 3) := by decide +kernel
theorem d_Mt_init_44 : decode b_Mt_init 44 = .ok (.newarray .int, 2) := by decide +kernel
theorem d_Mt_init_46 : decode b_Mt_init 46 = .ok (.putfield 26, 3) := by decide +kernel
theorem d_Mt_init_49 : decode b_Mt_init 49 = .ok (.aload_n 0, 1) := by decide +kernel
theorem d_Mt_init_50 : decode b_Mt_init 50 = .ok (.sipush 4200, 3) := by decide +kernel
theorem d_Mt_init_53 : decode b_Mt_init 53 = .ok (.newarray .int, 2) := by decide +kernel
theorem d_Mt_init_55 : decode b_Mt_init 55 = .ok (.putfield 29, 3) := by decide +kernel
theorem d_Mt_init_58 : decode b_Mt_init 58 = .ok (.aload_n 0, 1) := by decide +kernel
theorem d_Mt_init_59 : decode b_Mt_init 59 = .ok (.sipush 4200, 3) := by decide +kernel
theorem d_Mt_init_62 : decode b_Mt_init 62 = .ok (.newarray .int, 2) := by decide +kernel
theorem d_Mt_init_64 : decode b_Mt_init 64 = .ok (.putfield 32, 3) := by decide +kernel
theorem d_Mt_init_67 : decode b_Mt_init 67 = .ok (.aload_n 0, 1) := by decide +kernel
theorem d_Mt_init_68 : decode b_Mt_init 68 = .ok (.sipush 4200, 3) := by decide +kernel
theorem d_Mt_init_71 : decode b_Mt_init 71 = .ok (.newarray .byte, 2) := by decide +kernel
theorem d_Mt_init_73 : decode b_Mt_init 73 = .ok (.putfield 35, 3) := by decide +kernel
theorem d_Mt_init_76 : decode b_Mt_init 76 = .ok (.aload_n 0, 1) := by decide +kernel
theorem d_Mt_init_77 : decode b_Mt_init 77 = .ok (.sipush 140, 3) := by decide +kernel
theorem d_Mt_init_80 : decode b_Mt_init 80 = .ok (.newarray .int, 2) := by decide +kernel
theorem d_Mt_init_82 : decode b_Mt_init 82 = .ok (.putfield 38, 3) := by decide +kernel
theorem d_Mt_init_85 : decode b_Mt_init 85 = .ok (.aload_n 0, 1) := by decide +kernel
theorem d_Mt_init_86 : decode b_Mt_init 86 = .ok (.sipush 140, 3) := by decide +kernel
theorem d_Mt_init_89 : decode b_Mt_init 89 = .ok (.newarray .int, 2) := by decide +kernel
theorem d_Mt_init_91 : decode b_Mt_init 91 = .ok (.putfield 41, 3) := by decide +kernel
theorem d_Mt_init_94 : decode b_Mt_init 94 = .ok (.aload_n 0, 1) := by decide +kernel
theorem d_Mt_init_95 : decode b_Mt_init 95 = .ok (.sipush 140, 3) := by decide +kernel
theorem d_Mt_init_98 : decode b_Mt_init 98 = .ok (.newarray .int, 2) := by decide +kernel
theorem d_Mt_init_100 : decode b_Mt_init 100 = .ok (.putfield 44, 3) := by decide +kernel
theorem d_Mt_init_103 : decode b_Mt_init 103 = .ok (.aload_n 0, 1) := by decide +kernel
theorem d_Mt_init_104 : decode b_Mt_init 104 = .ok (.sipush 140, 3) := by decide +kernel
theorem d_Mt_init_107 : decode b_Mt_init 107 = .ok (.newarray .int, 2) := by decide +kernel
theorem d_Mt_init_109 : decode b_Mt_init 109 = .ok (.putfield 47, 3) := by decide +kernel
theorem d_Mt_init_112 : decode b_Mt_init 112 = .ok (.aload_n 0, 1) := by decide +kernel
theorem d_Mt_init_113 : decode b_Mt_init 113 = .ok (.sipush 140, 3) := by decide +kernel
theorem d_Mt_init_116 : decode b_Mt_init 116 = .ok (.newarray .int, 2) := by decide +kernel
theorem d_Mt_init_118 : decode b_Mt_init 118 = .ok (.putfield 50, 3) := by decide +kernel
theorem d_Mt_init_121 : decode b_Mt_init 121 = .ok (.aload_n 0, 1) := by decide +kernel
theorem d_Mt_init_122 : decode b_Mt_init 122 = .ok (.sipush 140, 3) := by decide +kernel
theorem d_Mt_init_125 : decode b_Mt_init 125 = .ok (.newarray .int, 2) := by decide +kernel
theorem d_Mt_init_127 : decode b_Mt_init 127 = .ok (.putfield 53, 3) := by decide +kernel
theorem d_Mt_init_130 : decode b_Mt_init 130 = .ok (.aload_n 0, 1) := by decide +kernel
theorem d_Mt_init_131 : decode b_Mt_init 131 = .ok (.sipush 2200, 3) := by decide +kernel
theorem d_Mt_init_134 : decode b_Mt_init 134 = .ok (.newarray .int, 2) := by decide +kernel
theorem d_Mt_init_136 : decode b_Mt_init 136 = .ok (.putfield 56, 3) := by decide +kernel
theorem d_Mt_init_139 : decode b_Mt_init 139 = .ok (.aload_n 0, 1) := by decide +kernel
theorem d_Mt_init_140 : decode b_Mt_init 140 = .ok (.sipush 2200, 3) := by decide +kernel
theorem d_Mt_init_143 : decode b_Mt_init 143 = .ok (.newarray .int, 2) := by decide +kernel
theorem d_Mt_init_145 : decode b_Mt_init 145 = .ok (.putfield 59, 3) := by decide +kernel
theorem d_Mt_init_148 : decode b_Mt_init 148 = .ok (.aload_n 0, 1) := by decide +kernel
theorem d_Mt_init_149 : decode b_Mt_init 149 = .ok (.sipush 2200, 3) := by decide +kernel
theorem d_Mt_init_152 : decode b_Mt_init 152 = .ok (.newarray .int, 2) := by decide +kernel
theorem d_Mt_init_154 : decode b_Mt_init 154 = .ok (.putfield 62, 3) := by decide +kernel
theorem d_Mt_init_157 : decode b_Mt_init 157 = .ok (.aload_n 0, 1) := by decide +kernel
theorem d_Mt_init_158 : decode b_Mt_init 158 = .ok (.sipush 2200, 3) := by decide +kernel
theorem d_Mt_init_161 : decode b_Mt_init 161 = .ok (.newarray .int, 2) := by decide +kernel
theorem d_Mt_init_163 : decode b_Mt_init 163 = .ok (.putfield 65, 3) := by decide +kernel
theorem d_Mt_init_166 : decode b_Mt_init 166 = .ok (.aload_n 0, 1) := by decide +kernel
theorem d_Mt_init_167 : decode b_Mt_init 167 = .ok (.sipush 2200, 3) := by decide +kernel
theorem d_Mt_init_170 : decode b_Mt_init 170 = .ok (.newarray .int, 2) := by decide +kernel
theorem d_Mt_init_172 : decode b_Mt_init 172 = .ok (.putfield 68, 3) := by decide +kernel
theorem d_Mt_init_175 : decode b_Mt_init 175 = .ok (.aload_n 0, 1) := by decide +kernel
theorem d_Mt_init_176 : decode b_Mt_init 176 = .ok (.sipush 4200, 3) := by decide +kernel
theorem d_Mt_init_179 : decode b_Mt_init 179 = .ok (.newarray .byte, 2) := by decide +kernel
theorem d_Mt_init_181 : decode b_Mt_init 181 = .ok (.putfield 71, 3) := by decide +kernel
theorem d_Mt_init_184 : decode b_Mt_init 184 = .ok (.aload_n 0, 1) := by decide +kernel
theorem d_Mt_init_185 : decode b_Mt_init 185 = .ok (.sipush 140, 3) := by decide +kernel
theorem d_Mt_init_188 : decode b_Mt_init 188 = .ok (.newarray .boolean, 2) := by decide +kernel
theorem d_Mt_init_190 : decode b_Mt_init 190 = .ok (.putfield 74, 3) := by decide +kernel
theorem d_Mt_init_193 : decode b_Mt_init 193 = .ok (.return_, 1) := by decide +kernel
abbrev b_Mo_init : ByteArray := prog_14_method_1_code
abbrev y_Mo_init : MethodName := ⟨"RecordLakeModel", "<init>", "()V"⟩
abbrev w_Mo_init : List Cond := Cond.code y_Mo_init b_Mo_init 1 none :: gW
theorem d_Mo_init_0 : decode b_Mo_init 0 = .ok (.aload_n 0, 1) := by decide +kernel
theorem d_Mo_init_1 : decode b_Mo_init 1 = .ok (.invokespecial 1, 3) := by decide +kernel
theorem d_Mo_init_4 : decode b_Mo_init 4 = .ok (.aload_n 0, 1) := by decide +kernel
theorem d_Mo_init_5 : decode b_Mo_init 5 = .ok (.sipush 4096, 3) := by decide +kernel
theorem d_Mo_init_8 : decode b_Mo_init 8 = .ok (.newarray .byte, 2) := by decide +kernel
theorem d_Mo_init_10 : decode b_Mo_init 10 = .ok (.putfield 7, 3) := by decide +kernel
theorem d_Mo_init_13 : decode b_Mo_init 13 = .ok (.aload_n 0, 1) := by decide +kernel
theorem d_Mo_init_14 : decode b_Mo_init 14 = .ok (.iconst (-1), 1) := by decide +kernel
theorem d_Mo_init_15 : decode b_Mo_init 15 = .ok (.putfield 13, 3) := by decide +kernel
theorem d_Mo_init_18 : decode b_Mo_init 18 = .ok (.aload_n 0, 1) := by decide +kernel
theorem d_Mo_init_19 : decode b_Mo_init 19 = .ok (.new 17, 3) := by decide +kernel
theorem d_Mo_init_22 : decode b_Mo_init 22 = .ok (.dup, 1) := by decide +kernel
theorem d_Mo_init_23 : decode b_Mo_init 23 = .ok (.invokespecial 19, 3) := by decide +kernel
theorem d_Mo_init_26 : decode b_Mo_init 26 = .ok (.putfield 20, 3) := by decide +kernel
theorem d_Mo_init_29 : decode b_Mo_init 29 = .ok (.aload_n 0, 1) := by decide +kernel
theorem d_Mo_init_30 : decode b_Mo_init 30 = .ok (.new 17, 3) := by decide +kernel
theorem d_Mo_init_33 : decode b_Mo_init 33 = .ok (.dup, 1) := by decide +kernel
theorem d_Mo_init_34 : decode b_Mo_init 34 = .ok (.invokespecial 19, 3) := by decide +kernel
theorem d_Mo_init_37 : decode b_Mo_init 37 = .ok (.putfield 24, 3) := by decide +kernel
theorem d_Mo_init_40 : decode b_Mo_init 40 = .ok (.aload_n 0, 1) := by decide +kernel
theorem d_Mo_init_41 : decode b_Mo_init 41 = .ok (.new 17, 3) := by decide +kernel
theorem d_Mo_init_44 : decode b_Mo_init 44 = .ok (.dup, 1) := by decide +kernel
theorem d_Mo_init_45 : decode b_Mo_init 45 = .ok (.invokespecial 19, 3) := by decide +kernel
theorem d_Mo_init_48 : decode b_Mo_init 48 = .ok (.putfield 27, 3) := by decide +kernel
theorem d_Mo_init_51 : decode b_Mo_init 51 = .ok (.aload_n 0, 1) := by decide +kernel
theorem d_Mo_init_52 : decode b_Mo_init 52 = .ok (.sipush 4200, 3) := by decide +kernel
theorem d_Mo_init_55 : decode b_Mo_init 55 = .ok (.newarray .byte, 2) := by decide +kernel
theorem d_Mo_init_57 : decode b_Mo_init 57 = .ok (.putfield 30, 3) := by decide +kernel
theorem d_Mo_init_60 : decode b_Mo_init 60 = .ok (.aload_n 0, 1) := by decide +kernel
theorem d_Mo_init_61 : decode b_Mo_init 61 = .ok (.sipush 4096, 3) := by decide +kernel
theorem d_Mo_init_64 : decode b_Mo_init 64 = .ok (.newarray .byte, 2) := by decide +kernel
theorem d_Mo_init_66 : decode b_Mo_init 66 = .ok (.putfield 33, 3) := by decide +kernel
theorem d_Mo_init_69 : decode b_Mo_init 69 = .ok (.aload_n 0, 1) := by decide +kernel
theorem d_Mo_init_70 : decode b_Mo_init 70 = .ok (.iconst (-1), 1) := by decide +kernel
theorem d_Mo_init_71 : decode b_Mo_init 71 = .ok (.putfield 36, 3) := by decide +kernel
theorem d_Mo_init_74 : decode b_Mo_init 74 = .ok (.aload_n 0, 1) := by decide +kernel
theorem d_Mo_init_75 : decode b_Mo_init 75 = .ok (.bipush 41, 2) := by decide +kernel
theorem d_Mo_init_77 : decode b_Mo_init 77 = .ok (.newarray .int, 2) := by decide +kernel
theorem d_Mo_init_79 : decode b_Mo_init 79 = .ok (.putfield 39, 3) := by decide +kernel
theorem d_Mo_init_82 : decode b_Mo_init 82 = .ok (.aload_n 0, 1) := by decide +kernel
theorem d_Mo_init_83 : decode b_Mo_init 83 = .ok (.bipush 41, 2) := by decide +kernel
theorem d_Mo_init_85 : decode b_Mo_init 85 = .ok (.newarray .int, 2) := by decide +kernel
theorem d_Mo_init_87 : decode b_Mo_init 87 = .ok (.putfield 43, 3) := by decide +kernel
theorem d_Mo_init_90 : decode b_Mo_init 90 = .ok (.aload_n 0, 1) := by decide +kernel
theorem d_Mo_init_91 : decode b_Mo_init 91 = .ok (.bipush 41, 2) := by decide +kernel
theorem d_Mo_init_93 : decode b_Mo_init 93 = .ok (.newarray .int, 2) := by decide +kernel
theorem d_Mo_init_95 : decode b_Mo_init 95 = .ok (.putfield 46, 3) := by decide +kernel
theorem d_Mo_init_98 : decode b_Mo_init 98 = .ok (.aload_n 0, 1) := by decide +kernel
theorem d_Mo_init_99 : decode b_Mo_init 99 = .ok (.bipush 41, 2) := by decide +kernel
theorem d_Mo_init_101 : decode b_Mo_init 101 = .ok (.newarray .int, 2) := by decide +kernel
theorem d_Mo_init_103 : decode b_Mo_init 103 = .ok (.putfield 49, 3) := by decide +kernel
theorem d_Mo_init_106 : decode b_Mo_init 106 = .ok (.aload_n 0, 1) := by decide +kernel
theorem d_Mo_init_107 : decode b_Mo_init 107 = .ok (.bipush 41, 2) := by decide +kernel
theorem d_Mo_init_109 : decode b_Mo_init 109 = .ok (.newarray .int, 2) := by decide +kernel
theorem d_Mo_init_111 : decode b_Mo_init 111 = .ok (.putfield 52, 3) := by decide +kernel
theorem d_Mo_init_114 : decode b_Mo_init 114 = .ok (.aload_n 0, 1) := by decide +kernel
theorem d_Mo_init_115 : decode b_Mo_init 115 = .ok (.bipush 41, 2) := by decide +kernel
theorem d_Mo_init_117 : decode b_Mo_init 117 = .ok (.newarray .int, 2) := by decide +kernel
theorem d_Mo_init_119 : decode b_Mo_init 119 = .ok (.putfield 55, 3) := by decide +kernel
theorem d_Mo_init_122 : decode b_Mo_init 122 = .ok (.aload_n 0, 1) := by decide +kernel
theorem d_Mo_init_123 : decode b_Mo_init 123 = .ok (.ldc 58, 2) := by decide +kernel
theorem d_Mo_init_125 : decode b_Mo_init 125 = .ok (.newarray .byte, 2) := by decide +kernel
theorem d_Mo_init_127 : decode b_Mo_init 127 = .ok (.putfield 59, 3) := by decide +kernel
theorem d_Mo_init_130 : decode b_Mo_init 130 = .ok (.aload_n 0, 1) := by decide +kernel
theorem d_Mo_init_131 : decode b_Mo_init 131 = .ok (.sipush 4200, 3) := by decide +kernel
theorem d_Mo_init_134 : decode b_Mo_init 134 = .ok (.newarray .byte, 2) := by decide +kernel
theorem d_Mo_init_136 : decode b_Mo_init 136 = .ok (.putfield 62, 3) := by decide +kernel
theorem d_Mo_init_139 : decode b_Mo_init 139 = .ok (.aload_n 0, 1) := by decide +kernel
theorem d_Mo_init_140 : decode b_Mo_init 140 = .ok (.sipush 19600, 3) := by decide +kernel
theorem d_Mo_init_143 : decode b_Mo_init 143 = .ok (.newarray .boolean, 2) := by decide +kernel
theorem d_Mo_init_145 : decode b_Mo_init 145 = .ok (.putfield 65, 3) := by decide +kernel
theorem d_Mo_init_148 : decode b_Mo_init 148 = .ok (.aload_n 0, 1) := by decide +kernel
theorem d_Mo_init_149 : decode b_Mo_init 149 = .ok (.sipush 19600, 3) := by decide +kernel
theorem d_Mo_init_152 : decode b_Mo_init 152 = .ok (.newarray .int, 2) := by decide +kernel
theorem d_Mo_init_154 : decode b_Mo_init 154 = .ok (.putfield 69, 3) := by decide +kernel
theorem d_Mo_init_157 : decode b_Mo_init 157 = .ok (.aload_n 0, 1) := by decide +kernel
theorem d_Mo_init_158 : decode b_Mo_init 158 = .ok (.sipush 4200, 3) := by decide +kernel
theorem d_Mo_init_161 : decode b_Mo_init 161 = .ok (.newarray .byte, 2) := by decide +kernel
theorem d_Mo_init_163 : decode b_Mo_init 163 = .ok (.putfield 72, 3) := by decide +kernel
theorem d_Mo_init_166 : decode b_Mo_init 166 = .ok (.aload_n 0, 1) := by decide +kernel
theorem d_Mo_init_167 : decode b_Mo_init 167 = .ok (.sipush 4200, 3) := by decide +kernel
theorem d_Mo_init_170 : decode b_Mo_init 170 = .ok (.newarray .byte, 2) := by decide +kernel
theorem d_Mo_init_172 : decode b_Mo_init 172 = .ok (.putfield 75, 3) := by decide +kernel
theorem d_Mo_init_175 : decode b_Mo_init 175 = .ok (.aload_n 0, 1) := by decide +kernel
theorem d_Mo_init_176 : decode b_Mo_init 176 = .ok (.iconst 0, 1) := by decide +kernel
theorem d_Mo_init_177 : decode b_Mo_init 177 = .ok (.putfield 78, 3) := by decide +kernel
theorem d_Mo_init_180 : decode b_Mo_init 180 = .ok (.return_, 1) := by decide +kernel
