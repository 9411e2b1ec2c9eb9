/-! names: methods, their instructions, words -/
theorem mw_3 : Cond.initialized "RecordLake$Text" ∈ gW := gw_of (List.mem_of_getElem? (i := 3) (by decide +kernel)) (by decide +kernel)
theorem mw_4 : Cond.initialized "RecordLake$Schemas" ∈ gW := gw_of (List.mem_of_getElem? (i := 4) (by decide +kernel)) (by decide +kernel)
theorem mw_5 : Cond.initialized "RecordLake$SchemaReader" ∈ gW := gw_of (List.mem_of_getElem? (i := 5) (by decide +kernel)) (by decide +kernel)
theorem mw_7 : Cond.initialized "RecordLake$PlainForm" ∈ gW := gw_of (List.mem_of_getElem? (i := 7) (by decide +kernel)) (by decide +kernel)
theorem mw_8 : Cond.initialized "RecordLake$Looker" ∈ gW := gw_of (List.mem_of_getElem? (i := 8) (by decide +kernel)) (by decide +kernel)
theorem mw_9 : Cond.initialized "RecordLake$Matching" ∈ gW := gw_of (List.mem_of_getElem? (i := 9) (by decide +kernel)) (by decide +kernel)
theorem mw_10 : Cond.initialized "RecordLake$Teller" ∈ gW := gw_of (List.mem_of_getElem? (i := 10) (by decide +kernel)) (by decide +kernel)
theorem mw_11 : Cond.initialized "RecordLake$Disk" ∈ gW := gw_of (List.mem_of_getElem? (i := 11) (by decide +kernel)) (by decide +kernel)
theorem mw_12 : Cond.initialized "RecordLake$FileList" ∈ gW := gw_of (List.mem_of_getElem? (i := 12) (by decide +kernel)) (by decide +kernel)
theorem mw_32 : Cond.code ⟨"RecordLake", "<init>", "()V"⟩ prog_1_method_1_code 1 none ∈ gW := gw_of (List.mem_of_getElem? (i := 32) (by decide +kernel)) (by decide +kernel)
theorem mw_33 : Cond.methodLink "RecordLake" 1 ⟨"java/lang/Object", "<init>", "()V"⟩ ∈ gW := gw_of (List.mem_of_getElem? (i := 33) (by decide +kernel)) (by decide +kernel)
theorem mw_36 : Cond.classLink "RecordLake" 7 "RecordLake$Bytes" ∈ gW := gw_of (List.mem_of_getElem? (i := 36) (by decide +kernel)) (by decide +kernel)
theorem mw_38 : Cond.methodLink "RecordLake" 11 ⟨"RecordLake$Bytes", "<init>", "(I)V"⟩ ∈ gW := gw_of (List.mem_of_getElem? (i := 38) (by decide +kernel)) (by decide +kernel)
theorem mw_65 : Cond.classLink "RecordLake" 33 "RecordLake$Text" ∈ gW := gw_of (List.mem_of_getElem? (i := 65) (by decide +kernel)) (by decide +kernel)
theorem mw_66 : Cond.instantiable "RecordLake$Text" 15 ∈ gW := gw_of (List.mem_of_getElem? (i := 66) (by decide +kernel)) (by decide +kernel)
theorem mw_68 : Cond.instanceMethod ⟨"RecordLake$Text", "<init>", "()V"⟩ ∈ gW := gw_of (List.mem_of_getElem? (i := 68) (by decide +kernel)) (by decide +kernel)
theorem mw_140 : Cond.classLink "RecordLake" 40 "RecordLake$Schemas" ∈ gW := gw_of (List.mem_of_getElem? (i := 140) (by decide +kernel)) (by decide +kernel)
theorem mw_141 : Cond.instantiable "RecordLake$Schemas" 18 ∈ gW := gw_of (List.mem_of_getElem? (i := 141) (by decide +kernel)) (by decide +kernel)
theorem mw_142 : Cond.methodLink "RecordLake" 42 ⟨"RecordLake$Schemas", "<init>", "()V"⟩ ∈ gW := gw_of (List.mem_of_getElem? (i := 142) (by decide +kernel)) (by decide +kernel)
theorem mw_143 : Cond.instanceMethod ⟨"RecordLake$Schemas", "<init>", "()V"⟩ ∈ gW := gw_of (List.mem_of_getElem? (i := 143) (by decide +kernel)) (by decide +kernel)
theorem mw_247 : Cond.classLink "RecordLake" 47 "RecordLake$SchemaReader" ∈ gW := gw_of (List.mem_of_getElem? (i := 247) (by decide +kernel)) (by decide +kernel)
theorem mw_248 : Cond.instantiable "RecordLake$SchemaReader" 6 ∈ gW := gw_of (List.mem_of_getElem? (i := 248) (by decide +kernel)) (by decide +kernel)
theorem mw_249 : Cond.methodLink "RecordLake" 49 ⟨"RecordLake$SchemaReader", "<init>", "(LRecordLake$Text;LRecordLake$Schemas;)V"⟩ ∈ gW := gw_of (List.mem_of_getElem? (i := 249) (by decide +kernel)) (by decide +kernel)
theorem mw_250 : Cond.instanceMethod ⟨"RecordLake$SchemaReader", "<init>", "(LRecordLake$Text;LRecordLake$Schemas;)V"⟩ ∈ gW := gw_of (List.mem_of_getElem? (i := 250) (by decide +kernel)) (by decide +kernel)
theorem mw_296 : Cond.classLink "RecordLake" 56 "RecordLake$PlainForm" ∈ gW := gw_of (List.mem_of_getElem? (i := 296) (by decide +kernel)) (by decide +kernel)
theorem mw_297 : Cond.instantiable "RecordLake$PlainForm" 5 ∈ gW := gw_of (List.mem_of_getElem? (i := 297) (by decide +kernel)) (by decide +kernel)
theorem mw_298 : Cond.methodLink "RecordLake" 58 ⟨"RecordLake$PlainForm", "<init>", "(LRecordLake$Schemas;)V"⟩ ∈ gW := gw_of (List.mem_of_getElem? (i := 298) (by decide +kernel)) (by decide +kernel)
theorem mw_299 : Cond.instanceMethod ⟨"RecordLake$PlainForm", "<init>", "(LRecordLake$Schemas;)V"⟩ ∈ gW := gw_of (List.mem_of_getElem? (i := 299) (by decide +kernel)) (by decide +kernel)
theorem mw_320 : Cond.classLink "RecordLake" 65 "RecordLake$Looker" ∈ gW := gw_of (List.mem_of_getElem? (i := 320) (by decide +kernel)) (by decide +kernel)
theorem mw_321 : Cond.instantiable "RecordLake$Looker" 10 ∈ gW := gw_of (List.mem_of_getElem? (i := 321) (by decide +kernel)) (by decide +kernel)
theorem mw_322 : Cond.methodLink "RecordLake" 67 ⟨"RecordLake$Looker", "<init>", "(LRecordLake$Schemas;)V"⟩ ∈ gW := gw_of (List.mem_of_getElem? (i := 322) (by decide +kernel)) (by decide +kernel)
theorem mw_323 : Cond.instanceMethod ⟨"RecordLake$Looker", "<init>", "(LRecordLake$Schemas;)V"⟩ ∈ gW := gw_of (List.mem_of_getElem? (i := 323) (by decide +kernel)) (by decide +kernel)
theorem mw_363 : Cond.classLink "RecordLake" 72 "RecordLake$Matching" ∈ gW := gw_of (List.mem_of_getElem? (i := 363) (by decide +kernel)) (by decide +kernel)
theorem mw_364 : Cond.instantiable "RecordLake$Matching" 7 ∈ gW := gw_of (List.mem_of_getElem? (i := 364) (by decide +kernel)) (by decide +kernel)
theorem mw_365 : Cond.methodLink "RecordLake" 74 ⟨"RecordLake$Matching", "<init>", "(LRecordLake$Schemas;)V"⟩ ∈ gW := gw_of (List.mem_of_getElem? (i := 365) (by decide +kernel)) (by decide +kernel)
theorem mw_366 : Cond.instanceMethod ⟨"RecordLake$Matching", "<init>", "(LRecordLake$Schemas;)V"⟩ ∈ gW := gw_of (List.mem_of_getElem? (i := 366) (by decide +kernel)) (by decide +kernel)
theorem mw_391 : Cond.classLink "RecordLake" 79 "RecordLake$Teller" ∈ gW := gw_of (List.mem_of_getElem? (i := 391) (by decide +kernel)) (by decide +kernel)
theorem mw_392 : Cond.instantiable "RecordLake$Teller" 7 ∈ gW := gw_of (List.mem_of_getElem? (i := 392) (by decide +kernel)) (by decide +kernel)
theorem mw_393 : Cond.methodLink "RecordLake" 81 ⟨"RecordLake$Teller", "<init>", "(LRecordLake$Schemas;LRecordLake$Matching;)V"⟩ ∈ gW := gw_of (List.mem_of_getElem? (i := 393) (by decide +kernel)) (by decide +kernel)
theorem mw_394 : Cond.instanceMethod ⟨"RecordLake$Teller", "<init>", "(LRecordLake$Schemas;LRecordLake$Matching;)V"⟩ ∈ gW := gw_of (List.mem_of_getElem? (i := 394) (by decide +kernel)) (by decide +kernel)
theorem mw_423 : Cond.classLink "RecordLake" 88 "RecordLake$Disk" ∈ gW := gw_of (List.mem_of_getElem? (i := 423) (by decide +kernel)) (by decide +kernel)
theorem mw_424 : Cond.instantiable "RecordLake$Disk" 2 ∈ gW := gw_of (List.mem_of_getElem? (i := 424) (by decide +kernel)) (by decide +kernel)
theorem mw_426 : Cond.instanceMethod ⟨"RecordLake$Disk", "<init>", "()V"⟩ ∈ gW := gw_of (List.mem_of_getElem? (i := 426) (by decide +kernel)) (by decide +kernel)
theorem mw_440 : Cond.classLink "RecordLake" 95 "RecordLake$FileList" ∈ gW := gw_of (List.mem_of_getElem? (i := 440) (by decide +kernel)) (by decide +kernel)
theorem mw_441 : Cond.instantiable "RecordLake$FileList" 9 ∈ gW := gw_of (List.mem_of_getElem? (i := 441) (by decide +kernel)) (by decide +kernel)
theorem mw_443 : Cond.instanceMethod ⟨"RecordLake$FileList", "<init>", "()V"⟩ ∈ gW := gw_of (List.mem_of_getElem? (i := 443) (by decide +kernel)) (by decide +kernel)
theorem mw_483 : Cond.fieldLink "RecordLake" 14 "RecordLake" "tape" "LRecordLake$Bytes;" ∈ gW := gw_of (List.mem_of_getElem? (i := 483) (by decide +kernel)) (by decide +kernel)
theorem mw_484 : Cond.fieldLink "RecordLake" 18 "RecordLake" "plain" "LRecordLake$Bytes;" ∈ gW := gw_of (List.mem_of_getElem? (i := 484) (by decide +kernel)) (by decide +kernel)
theorem mw_485 : Cond.fieldLink "RecordLake" 21 "RecordLake" "out" "LRecordLake$Bytes;" ∈ gW := gw_of (List.mem_of_getElem? (i := 485) (by decide +kernel)) (by decide +kernel)
theorem mw_486 : Cond.fieldLink "RecordLake" 24 "RecordLake" "toldRow" "LRecordLake$Bytes;" ∈ gW := gw_of (List.mem_of_getElem? (i := 486) (by decide +kernel)) (by decide +kernel)
theorem mw_487 : Cond.fieldLink "RecordLake" 27 "RecordLake" "gathered" "LRecordLake$Bytes;" ∈ gW := gw_of (List.mem_of_getElem? (i := 487) (by decide +kernel)) (by decide +kernel)
theorem mw_488 : Cond.fieldLink "RecordLake" 30 "RecordLake" "content" "LRecordLake$Bytes;" ∈ gW := gw_of (List.mem_of_getElem? (i := 488) (by decide +kernel)) (by decide +kernel)
theorem mw_489 : Cond.fieldLink "RecordLake" 36 "RecordLake" "text" "LRecordLake$Text;" ∈ gW := gw_of (List.mem_of_getElem? (i := 489) (by decide +kernel)) (by decide +kernel)
theorem mw_490 : Cond.fieldLink "RecordLake" 43 "RecordLake" "schemas" "LRecordLake$Schemas;" ∈ gW := gw_of (List.mem_of_getElem? (i := 490) (by decide +kernel)) (by decide +kernel)
theorem mw_491 : Cond.fieldLink "RecordLake" 52 "RecordLake" "reader" "LRecordLake$SchemaReader;" ∈ gW := gw_of (List.mem_of_getElem? (i := 491) (by decide +kernel)) (by decide +kernel)
theorem mw_492 : Cond.fieldLink "RecordLake" 61 "RecordLake" "forms" "LRecordLake$PlainForm;" ∈ gW := gw_of (List.mem_of_getElem? (i := 492) (by decide +kernel)) (by decide +kernel)
theorem mw_493 : Cond.fieldLink "RecordLake" 68 "RecordLake" "looker" "LRecordLake$Looker;" ∈ gW := gw_of (List.mem_of_getElem? (i := 493) (by decide +kernel)) (by decide +kernel)
theorem mw_494 : Cond.fieldLink "RecordLake" 75 "RecordLake" "matching" "LRecordLake$Matching;" ∈ gW := gw_of (List.mem_of_getElem? (i := 494) (by decide +kernel)) (by decide +kernel)
theorem mw_495 : Cond.fieldLink "RecordLake" 84 "RecordLake" "teller" "LRecordLake$Teller;" ∈ gW := gw_of (List.mem_of_getElem? (i := 495) (by decide +kernel)) (by decide +kernel)
theorem mw_496 : Cond.fieldLink "RecordLake" 91 "RecordLake" "disk" "LRecordLake$Disk;" ∈ gW := gw_of (List.mem_of_getElem? (i := 496) (by decide +kernel)) (by decide +kernel)
theorem mw_497 : Cond.fieldLink "RecordLake" 98 "RecordLake" "list" "LRecordLake$FileList;" ∈ gW := gw_of (List.mem_of_getElem? (i := 497) (by decide +kernel)) (by decide +kernel)
theorem mw_498 : Cond.fieldLink "RecordLake" 102 "RecordLake" "faultPlace" "I" ∈ gW := gw_of (List.mem_of_getElem? (i := 498) (by decide +kernel)) (by decide +kernel)
theorem mw_499 : Cond.fieldLink "RecordLake" 106 "RecordLake" "down" "Z" ∈ gW := gw_of (List.mem_of_getElem? (i := 499) (by decide +kernel)) (by decide +kernel)
theorem nw_67 : Cond.methodLinkNest "RecordLake" 35 ⟨"RecordLake$Text", "<init>", "()V"⟩ "RecordLake" ∈ nW := nw_of (List.mem_of_getElem? (i := 67) (by decide +kernel)) rfl
theorem nw_425 : Cond.methodLinkNest "RecordLake" 90 ⟨"RecordLake$Disk", "<init>", "()V"⟩ "RecordLake" ∈ nW := nw_of (List.mem_of_getElem? (i := 425) (by decide +kernel)) rfl
theorem nw_442 : Cond.methodLinkNest "RecordLake" 97 ⟨"RecordLake$FileList", "<init>", "()V"⟩ "RecordLake" ∈ nW := nw_of (List.mem_of_getElem? (i := 442) (by decide +kernel)) rfl
abbrev b_Lk_init : ByteArray := prog_1_method_1_code
abbrev y_Lk_init : MethodName := ⟨"RecordLake", "<init>", "()V"⟩
abbrev w_Lk_init : List Cond := Cond.code y_Lk_init b_Lk_init 1 none :: gW
theorem d_Lk_init_0 : decode b_Lk_init 0 = .ok (.aload_n 0, 1) := by decide +kernel
theorem d_Lk_init_1 : decode b_Lk_init 1 = .ok (.invokespecial 1, 3) := by decide +kernel
theorem d_Lk_init_4 : decode b_Lk_init 4 = .ok (.aload_n 0, 1) := by decide +kernel
theorem d_Lk_init_5 : decode b_Lk_init 5 = .ok (.new 7, 3) := by decide +kernel
theorem d_Lk_init_8 : decode b_Lk_init 8 = .ok (.dup, 1) := by decide +kernel
theorem d_Lk_init_9 : decode b_Lk_init 9 = .ok (.sipush 4096, 3) := by decide +kernel
theorem d_Lk_init_12 : decode b_Lk_init 12 = .ok (.invokespecial 11, 3) := by decide +kernel
theorem d_Lk_init_15 : decode b_Lk_init 15 = .ok (.putfield 14, 3) := by decide +kernel
theorem d_Lk_init_18 : decode b_Lk_init 18 = .ok (.aload_n 0, 1) := by decide +kernel
theorem d_Lk_init_19 : decode b_Lk_init 19 = .ok (.new 7, 3) := by decide +kernel
theorem d_Lk_init_22 : decode b_Lk_init 22 = .ok (.dup, 1) := by decide +kernel
theorem d_Lk_init_23 : decode b_Lk_init 23 = .ok (.sipush 4096, 3) := by decide +kernel
theorem d_Lk_init_26 : decode b_Lk_init 26 = .ok (.invokespecial 11, 3) := by decide +kernel
theorem d_Lk_init_29 : decode b_Lk_init 29 = .ok (.putfield 18, 3) := by decide +kernel
theorem d_Lk_init_32 : decode b_Lk_init 32 = .ok (.aload_n 0, 1) := by decide +kernel
theorem d_Lk_init_33 : decode b_Lk_init 33 = .ok (.new 7, 3) := by decide +kernel
theorem d_Lk_init_36 : decode b_Lk_init 36 = .ok (.dup, 1) := by decide +kernel
theorem d_Lk_init_37 : decode b_Lk_init 37 = .ok (.sipush 4096, 3) := by decide +kernel
theorem d_Lk_init_40 : decode b_Lk_init 40 = .ok (.invokespecial 11, 3) := by decide +kernel
theorem d_Lk_init_43 : decode b_Lk_init 43 = .ok (.putfield 21, 3) := by decide +kernel
theorem d_Lk_init_46 : decode b_Lk_init 46 = .ok (.aload_n 0, 1) := by decide +kernel
theorem d_Lk_init_47 : decode b_Lk_init 47 = .ok (.new 7, 3) := by decide +kernel
theorem d_Lk_init_50 : decode b_Lk_init 50 = .ok (.dup, 1) := by decide +kernel
theorem d_Lk_init_51 : decode b_Lk_init 51 = .ok (.sipush 4096, 3) := by decide +kernel
theorem d_Lk_init_54 : decode b_Lk_init 54 = .ok (.invokespecial 11, 3) := by decide +kernel
theorem d_Lk_init_57 : decode b_Lk_init 57 = .ok (.putfield 24, 3) := by decide +kernel
theorem d_Lk_init_60 : decode b_Lk_init 60 = .ok (.aload_n 0, 1) := by decide +kernel
theorem d_Lk_init_61 : decode b_Lk_init 61 = .ok (.new 7, 3) := by decide +kernel
theorem d_Lk_init_64 : decode b_Lk_init 64 = .ok (.dup, 1) := by decide +kernel
theorem d_Lk_init_65 : decode b_Lk_init 65 = .ok (.sipush 4096, 3) := by decide +kernel
theorem d_Lk_init_68 : decode b_Lk_init 68 = .ok (.invokespecial 11, 3) := by decide +kernel
theorem d_Lk_init_71 : decode b_Lk_init 71 = .ok (.putfield 27, 3) := by decide +kernel
theorem d_Lk_init_74 : decode b_Lk_init 74 = .ok (.aload_n 0, 1) := by decide +kernel
theorem d_Lk_init_75 : decode b_Lk_init 75 = .ok (.new 7, 3) := by decide +kernel
theorem d_Lk_init_78 : decode b_Lk_init 78 = .ok (.dup, 1) := by decide +kernel
theorem d_Lk_init_79 : decode b_Lk_init 79 = .ok (.sipush 4096, 3) := by decide +kernel
theorem d_Lk_init_82 : decode b_Lk_init 82 = .ok (.invokespecial 11, 3) := by decide +kernel
theorem d_Lk_init_85 : decode b_Lk_init 85 = .ok (.putfield 30, 3) := by decide +kernel
theorem d_Lk_init_88 : decode b_Lk_init 88 = .ok (.aload_n 0, 1) := by decide +kernel
theorem d_Lk_init_89 : decode b_Lk_init 89 = .ok (.new 33, 3) := by decide +kernel
theorem d_Lk_init_92 : decode b_Lk_init 92 = .ok (.dup, 1) := by decide +kernel
theorem d_Lk_init_93 : decode b_Lk_init 93 = .ok (.invokespecial 35, 3) := by decide +kernel
theorem d_Lk_init_96 : decode b_Lk_init 96 = .ok (.putfield 36, 3) := by decide +kernel
theorem d_Lk_init_99 : decode b_Lk_init 99 = .ok (.aload_n 0, 1) := by decide +kernel
theorem d_Lk_init_100 : decode b_Lk_init 100 = .ok (.new 40, 3) := by decide +kernel
theorem d_Lk_init_103 : decode b_Lk_init 103 = .ok (.dup, 1) := by decide +kernel
theorem d_Lk_init_104 : decode b_Lk_init 104 = .ok (.invokespecial 42, 3) := by decide +kernel
theorem d_Lk_init_107 : decode b_Lk_init 107 = .ok (.putfield 43, 3) := by decide +kernel
theorem d_Lk_init_110 : decode b_Lk_init 110 = .ok (.aload_n 0, 1) := by decide +kernel
theorem d_Lk_init_111 : decode b_Lk_init 111 = .ok (.new 47, 3) := by decide +kernel
theorem d_Lk_init_114 : decode b_Lk_init 114 = .ok (.dup, 1) := by decide +kernel
theorem d_Lk_init_115 : decode b_Lk_init 115 = .ok (.aload_n 0, 1) := by decide +kernel
theorem d_Lk_init_116 : decode b_Lk_init 116 = .ok (.getfield 36, 3) := by decide +kernel
theorem d_Lk_init_119 : decode b_Lk_init 119 = .ok (.aload_n 0, 1) := by decide +kernel
theorem d_Lk_init_120 : decode b_Lk_init 120 = .ok (.getfield 43, 3) := by decide +kernel
theorem d_Lk_init_123 : decode b_Lk_init 123 = .ok (.invokespecial 49, 3) := by decide +kernel
theorem d_Lk_init_126 : decode b_Lk_init 126 = .ok (.putfield 52, 3) := by decide +kernel
theorem d_Lk_init_129 : decode b_Lk_init 129 = .ok (.aload_n 0, 1) := by decide +kernel
theorem d_Lk_init_130 : decode b_Lk_init 130 = .ok (.new 56, 3) := by decide +kernel
theorem d_Lk_init_133 : decode b_Lk_init 133 = .ok (.dup, 1) := by decide +kernel
theorem d_Lk_init_134 : decode b_Lk_init 134 = .ok (.aload_n 0, 1) := by decide +kernel
theorem d_Lk_init_135 : decode b_Lk_init 135 = .ok (.getfield 43, 3) := by decide +kernel
theorem d_Lk_init_138 : decode b_Lk_init 138 = .ok (.invokespecial 58, 3) := by decide +kernel
theorem d_Lk_init_141 : decode b_Lk_init 141 = .ok (.putfield 61, 3) := by decide +kernel
theorem d_Lk_init_144 : decode b_Lk_init 144 = .ok (.aload_n 0, 1) := by decide +kernel
theorem d_Lk_init_145 : decode b_Lk_init 145 = .ok (.new 65, 3) := by decide +kernel
theorem d_Lk_init_148 : decode b_Lk_init 148 = .ok (.dup, 1) := by decide +kernel
theorem d_Lk_init_149 : decode b_Lk_init 149 = .ok (.aload_n 0, 1) := by decide +kernel
theorem d_Lk_init_150 : decode b_Lk_init 150 = .ok (.getfield 43, 3) := by decide +kernel
theorem d_Lk_init_153 : decode b_Lk_init 153 = .ok (.invokespecial 67, 3) := by decide +kernel
theorem d_Lk_init_156 : decode b_Lk_init 156 = .ok (.putfield 68, 3) := by decide +kernel
theorem d_Lk_init_159 : decode b_Lk_init 159 = .ok (.aload_n 0, 1) := by decide +kernel
theorem d_Lk_init_160 : decode b_Lk_init 160 = .ok (.new 72, 3) := by decide +kernel
theorem d_Lk_init_163 : decode b_Lk_init 163 = .ok (.dup, 1) := by decide +kernel
theorem d_Lk_init_164 : decode b_Lk_init 164 = .ok (.aload_n 0, 1) := by decide +kernel
theorem d_Lk_init_165 : decode b_Lk_init 165 = .ok (.getfield 43, 3) := by decide +kernel
theorem d_Lk_init_168 : decode b_Lk_init 168 = .ok (.invokespecial 74, 3) := by decide +kernel
theorem d_Lk_init_171 : decode b_Lk_init 171 = .ok (.putfield 75, 3) := by decide +kernel
theorem d_Lk_init_174 : decode b_Lk_init 174 = .ok (.aload_n 0, 1) := by decide +kernel
theorem d_Lk_init_175 : decode b_Lk_init 175 = .ok (.new 79, 3) := by decide +kernel
theorem d_Lk_init_178 : decode b_Lk_init 178 = .ok (.dup, 1) := by decide +kernel
theorem d_Lk_init_179 : decode b_Lk_init 179 = .ok (.aload_n 0, 1) := by decide +kernel
theorem d_Lk_init_180 : decode b_Lk_init 180 = .ok (.getfield 43, 3) := by decide +kernel
theorem d_Lk_init_183 : decode b_Lk_init 183 = .ok (.aload_n 0, 1) := by decide +kernel
theorem d_Lk_init_184 : decode b_Lk_init 184 = .ok (.getfield 75, 3) := by decide +kernel
theorem d_Lk_init_187 : decode b_Lk_init 187 = .ok (.invokespecial 81, 3) := by decide +kernel
theorem d_Lk_init_190 : decode b_Lk_init 190 = .ok (.putfield 84, 3) := by decide +kernel
theorem d_Lk_init_193 : decode b_Lk_init 193 = .ok (.aload_n 0, 1) := by decide +kernel
theorem d_Lk_init_194 : decode b_Lk_init 194 = .ok (.new 88, 3) := by decide +kernel
theorem d_Lk_init_197 : decode b_Lk_init 197 = .ok (.dup, 1) := by decide +kernel
theorem d_Lk_init_198 : decode b_Lk_init 198 = .ok (.invokespecial 90, 3) := by decide +kernel
theorem d_Lk_init_201 : decode b_Lk_init 201 = .ok (.putfield 91, 3) := by decide +kernel
theorem d_Lk_init_204 : decode b_Lk_init 204 = .ok (.aload_n 0, 1) := by decide +kernel
theorem d_Lk_init_205 : decode b_Lk_init 205 = .ok (.new 95, 3) := by decide +kernel
theorem d_Lk_init_208 : decode b_Lk_init 208 = .ok (.dup, 1) := by decide +kernel
theorem d_Lk_init_209 : decode b_Lk_init 209 = .ok (.invokespecial 97, 3) := by decide +kernel
theorem d_Lk_init_212 : decode b_Lk_init 212 = .ok (.putfield 98, 3) := by decide +kernel
theorem d_Lk_init_215 : decode b_Lk_init 215 = .ok (.aload_n 0, 1) := by decide +kernel
theorem d_Lk_init_216 : decode b_Lk_init 216 = .ok (.iconst (-1), 1) := by decide +kernel
theorem d_Lk_init_217 : decode b_Lk_init 217 = .ok (.putfield 102, 3) := by decide +kernel
theorem d_Lk_init_220 : decode b_Lk_init 220 = .ok (.aload_n 0, 1) := by decide +kernel
theorem d_Lk_init_221 : decode b_Lk_init 221 = .ok (.iconst 0, 1) := by decide +kernel
theorem d_Lk_init_222 : decode b_Lk_init 222 = .ok (.putfield 106, 3) := by decide +kernel
theorem d_Lk_init_225 : decode b_Lk_init 225 = .ok (.return_, 1) := by decide +kernel
