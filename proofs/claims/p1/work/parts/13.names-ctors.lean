/-! names: methods, their instructions, words -/
theorem mw_6 : Cond.initialized "RecordLake$Defaults" ∈ gW := gw_of (List.mem_of_getElem? (i := 6) (by decide +kernel)) (by decide +kernel)
theorem mw_37 : Cond.instantiable "RecordLake$Bytes" 2 ∈ gW := gw_of (List.mem_of_getElem? (i := 37) (by decide +kernel)) (by decide +kernel)
theorem mw_39 : Cond.instanceMethod ⟨"RecordLake$Bytes", "<init>", "(I)V"⟩ ∈ gW := gw_of (List.mem_of_getElem? (i := 39) (by decide +kernel)) (by decide +kernel)
theorem mw_43 : Cond.fieldLink "RecordLake$Looker" 20 "RecordLake$Bytes" "row" "[B" ∈ gW := gw_of (List.mem_of_getElem? (i := 43) (by decide +kernel)) (by decide +kernel)
theorem mw_44 : Cond.fieldLink "RecordLake$Teller" 32 "RecordLake$Bytes" "row" "[B" ∈ gW := gw_of (List.mem_of_getElem? (i := 44) (by decide +kernel)) (by decide +kernel)
theorem mw_45 : Cond.fieldLink "RecordLake$Text" 40 "RecordLake$Bytes" "row" "[B" ∈ gW := gw_of (List.mem_of_getElem? (i := 45) (by decide +kernel)) (by decide +kernel)
theorem mw_69 : Cond.code ⟨"RecordLake$Text", "<init>", "()V"⟩ prog_12_method_1_code 1 none ∈ gW := gw_of (List.mem_of_getElem? (i := 69) (by decide +kernel)) (by decide +kernel)
theorem mw_70 : Cond.methodLink "RecordLake$Text" 3 ⟨"java/lang/Object", "<init>", "()V"⟩ ∈ gW := gw_of (List.mem_of_getElem? (i := 70) (by decide +kernel)) (by decide +kernel)
theorem mw_71 : Cond.classLink "RecordLake$Text" 31 "RecordLake$Bytes" ∈ gW := gw_of (List.mem_of_getElem? (i := 71) (by decide +kernel)) (by decide +kernel)
theorem mw_72 : Cond.methodLink "RecordLake$Text" 33 ⟨"RecordLake$Bytes", "<init>", "(I)V"⟩ ∈ gW := gw_of (List.mem_of_getElem? (i := 72) (by decide +kernel)) (by decide +kernel)
theorem mw_73 : Cond.fieldLink "RecordLake$Text" 9 "RecordLake$Text" "kind" "[I" ∈ gW := gw_of (List.mem_of_getElem? (i := 73) (by decide +kernel)) (by decide +kernel)
theorem mw_76 : Cond.fieldLink "RecordLake$Text" 15 "RecordLake$Text" "begin" "[I" ∈ gW := gw_of (List.mem_of_getElem? (i := 76) (by decide +kernel)) (by decide +kernel)
theorem mw_78 : Cond.fieldLink "RecordLake$Text" 18 "RecordLake$Text" "inner" "[I" ∈ gW := gw_of (List.mem_of_getElem? (i := 78) (by decide +kernel)) (by decide +kernel)
theorem mw_82 : Cond.fieldLink "RecordLake$Text" 21 "RecordLake$Text" "extent" "[I" ∈ gW := gw_of (List.mem_of_getElem? (i := 82) (by decide +kernel)) (by decide +kernel)
theorem mw_86 : Cond.fieldLink "RecordLake$Text" 24 "RecordLake$Text" "next" "[I" ∈ gW := gw_of (List.mem_of_getElem? (i := 86) (by decide +kernel)) (by decide +kernel)
theorem mw_89 : Cond.fieldLink "RecordLake$Text" 27 "RecordLake$Text" "number" "[J" ∈ gW := gw_of (List.mem_of_getElem? (i := 89) (by decide +kernel)) (by decide +kernel)
theorem mw_92 : Cond.fieldLink "RecordLake$Text" 36 "RecordLake$Text" "told" "LRecordLake$Bytes;" ∈ gW := gw_of (List.mem_of_getElem? (i := 92) (by decide +kernel)) (by decide +kernel)
theorem mw_103 : Cond.fieldLink "RecordLake$Text" 44 "RecordLake$Text" "source" "[B" ∈ gW := gw_of (List.mem_of_getElem? (i := 103) (by decide +kernel)) (by decide +kernel)
theorem mw_138 : Cond.arrayClass .int ∈ gW := gw_of (List.mem_of_getElem? (i := 138) (by decide +kernel)) (by decide +kernel)
theorem mw_139 : Cond.arrayClass .long ∈ gW := gw_of (List.mem_of_getElem? (i := 139) (by decide +kernel)) (by decide +kernel)
theorem mw_144 : Cond.code ⟨"RecordLake$Schemas", "<init>", "()V"⟩ prog_10_method_1_code 2 none ∈ gW := gw_of (List.mem_of_getElem? (i := 144) (by decide +kernel)) (by decide +kernel)
theorem mw_145 : Cond.methodLink "RecordLake$Schemas" 5 ⟨"java/lang/Object", "<init>", "()V"⟩ ∈ gW := gw_of (List.mem_of_getElem? (i := 145) (by decide +kernel)) (by decide +kernel)
theorem mw_146 : Cond.classLink "RecordLake$Schemas" 39 "RecordLake$Bytes" ∈ gW := gw_of (List.mem_of_getElem? (i := 146) (by decide +kernel)) (by decide +kernel)
theorem mw_147 : Cond.constant "RecordLake$Schemas" 41 (72704 : Int32) ∈ gW := gw_of (List.mem_of_getElem? (i := 147) (by decide +kernel)) (by decide +kernel)
theorem mw_148 : Cond.methodLink "RecordLake$Schemas" 42 ⟨"RecordLake$Bytes", "<init>", "(I)V"⟩ ∈ gW := gw_of (List.mem_of_getElem? (i := 148) (by decide +kernel)) (by decide +kernel)
theorem mw_149 : Cond.fieldLink "RecordLake$Schemas" 11 "RecordLake$Schemas" "kind" "[I" ∈ gW := gw_of (List.mem_of_getElem? (i := 149) (by decide +kernel)) (by decide +kernel)
theorem mw_156 : Cond.fieldLink "RecordLake$Schemas" 15 "RecordLake$Schemas" "name" "[I" ∈ gW := gw_of (List.mem_of_getElem? (i := 156) (by decide +kernel)) (by decide +kernel)
theorem mw_160 : Cond.fieldLink "RecordLake$Schemas" 18 "RecordLake$Schemas" "part" "[I" ∈ gW := gw_of (List.mem_of_getElem? (i := 160) (by decide +kernel)) (by decide +kernel)
theorem mw_166 : Cond.fieldLink "RecordLake$Schemas" 21 "RecordLake$Schemas" "parts" "[I" ∈ gW := gw_of (List.mem_of_getElem? (i := 166) (by decide +kernel)) (by decide +kernel)
theorem mw_173 : Cond.fieldLink "RecordLake$Schemas" 24 "RecordLake$Schemas" "extra" "[I" ∈ gW := gw_of (List.mem_of_getElem? (i := 173) (by decide +kernel)) (by decide +kernel)
theorem mw_180 : Cond.fieldLink "RecordLake$Schemas" 27 "RecordLake$Schemas" "partName" "[I" ∈ gW := gw_of (List.mem_of_getElem? (i := 180) (by decide +kernel)) (by decide +kernel)
theorem mw_184 : Cond.fieldLink "RecordLake$Schemas" 30 "RecordLake$Schemas" "partSchema" "[I" ∈ gW := gw_of (List.mem_of_getElem? (i := 184) (by decide +kernel)) (by decide +kernel)
theorem mw_189 : Cond.fieldLink "RecordLake$Schemas" 33 "RecordLake$Schemas" "partDefault" "[I" ∈ gW := gw_of (List.mem_of_getElem? (i := 189) (by decide +kernel)) (by decide +kernel)
theorem mw_193 : Cond.fieldLink "RecordLake$Schemas" 36 "RecordLake$Schemas" "partDefaultBytes" "[I" ∈ gW := gw_of (List.mem_of_getElem? (i := 193) (by decide +kernel)) (by decide +kernel)
theorem mw_196 : Cond.fieldLink "RecordLake$Schemas" 45 "RecordLake$Schemas" "pool" "LRecordLake$Bytes;" ∈ gW := gw_of (List.mem_of_getElem? (i := 196) (by decide +kernel)) (by decide +kernel)
theorem mw_200 : Cond.fieldLink "RecordLake$Schemas" 49 "RecordLake$Schemas" "versions" "[I" ∈ gW := gw_of (List.mem_of_getElem? (i := 200) (by decide +kernel)) (by decide +kernel)
theorem mw_202 : Cond.fieldLink "RecordLake$Schemas" 62 "RecordLake$Schemas" "base" "I" ∈ gW := gw_of (List.mem_of_getElem? (i := 202) (by decide +kernel)) (by decide +kernel)
theorem mw_204 : Cond.fieldLink "RecordLake$Schemas" 52 "RecordLake$Schemas" "roots" "[I" ∈ gW := gw_of (List.mem_of_getElem? (i := 204) (by decide +kernel)) (by decide +kernel)
theorem mw_205 : Cond.fieldLink "RecordLake$Schemas" 55 "RecordLake$Schemas" "bases" "[I" ∈ gW := gw_of (List.mem_of_getElem? (i := 205) (by decide +kernel)) (by decide +kernel)
theorem mw_206 : Cond.fieldLink "RecordLake$Schemas" 58 "RecordLake$Schemas" "schemasUsed" "I" ∈ gW := gw_of (List.mem_of_getElem? (i := 206) (by decide +kernel)) (by decide +kernel)
theorem mw_251 : Cond.code ⟨"RecordLake$SchemaReader", "<init>", "(LRecordLake$Text;LRecordLake$Schemas;)V"⟩ prog_9_method_1_code 3 none ∈ gW := gw_of (List.mem_of_getElem? (i := 251) (by decide +kernel)) (by decide +kernel)
theorem mw_252 : Cond.methodLink "RecordLake$SchemaReader" 3 ⟨"java/lang/Object", "<init>", "()V"⟩ ∈ gW := gw_of (List.mem_of_getElem? (i := 252) (by decide +kernel)) (by decide +kernel)
theorem mw_253 : Cond.classLink "RecordLake$SchemaReader" 19 "RecordLake$Defaults" ∈ gW := gw_of (List.mem_of_getElem? (i := 253) (by decide +kernel)) (by decide +kernel)
theorem mw_254 : Cond.instantiable "RecordLake$Defaults" 5 ∈ gW := gw_of (List.mem_of_getElem? (i := 254) (by decide +kernel)) (by decide +kernel)
theorem mw_255 : Cond.methodLink "RecordLake$SchemaReader" 21 ⟨"RecordLake$Defaults", "<init>", "(LRecordLake$Text;LRecordLake$Schemas;)V"⟩ ∈ gW := gw_of (List.mem_of_getElem? (i := 255) (by decide +kernel)) (by decide +kernel)
theorem mw_256 : Cond.instanceMethod ⟨"RecordLake$Defaults", "<init>", "(LRecordLake$Text;LRecordLake$Schemas;)V"⟩ ∈ gW := gw_of (List.mem_of_getElem? (i := 256) (by decide +kernel)) (by decide +kernel)
theorem mw_257 : Cond.code ⟨"RecordLake$Defaults", "<init>", "(LRecordLake$Text;LRecordLake$Schemas;)V"⟩ prog_3_method_1_code 3 none ∈ gW := gw_of (List.mem_of_getElem? (i := 257) (by decide +kernel)) (by decide +kernel)
theorem mw_258 : Cond.methodLink "RecordLake$Defaults" 3 ⟨"java/lang/Object", "<init>", "()V"⟩ ∈ gW := gw_of (List.mem_of_getElem? (i := 258) (by decide +kernel)) (by decide +kernel)
theorem mw_259 : Cond.fieldLink "RecordLake$Defaults" 20 "RecordLake$Defaults" "text" "LRecordLake$Text;" ∈ gW := gw_of (List.mem_of_getElem? (i := 259) (by decide +kernel)) (by decide +kernel)
theorem mw_260 : Cond.fieldLink "RecordLake$Defaults" 24 "RecordLake$Defaults" "schemas" "LRecordLake$Schemas;" ∈ gW := gw_of (List.mem_of_getElem? (i := 260) (by decide +kernel)) (by decide +kernel)
theorem mw_261 : Cond.fieldLink "RecordLake$Defaults" 11 "RecordLake$Defaults" "waitingValue" "[I" ∈ gW := gw_of (List.mem_of_getElem? (i := 261) (by decide +kernel)) (by decide +kernel)
theorem mw_262 : Cond.fieldLink "RecordLake$Defaults" 17 "RecordLake$Defaults" "waitingPart" "[I" ∈ gW := gw_of (List.mem_of_getElem? (i := 262) (by decide +kernel)) (by decide +kernel)
theorem mw_275 : Cond.fieldLink "RecordLake$SchemaReader" 28 "RecordLake$SchemaReader" "fault" "I" ∈ gW := gw_of (List.mem_of_getElem? (i := 275) (by decide +kernel)) (by decide +kernel)
theorem mw_277 : Cond.fieldLink "RecordLake$SchemaReader" 32 "RecordLake$SchemaReader" "place" "I" ∈ gW := gw_of (List.mem_of_getElem? (i := 277) (by decide +kernel)) (by decide +kernel)
theorem mw_279 : Cond.fieldLink "RecordLake$SchemaReader" 9 "RecordLake$SchemaReader" "text" "LRecordLake$Text;" ∈ gW := gw_of (List.mem_of_getElem? (i := 279) (by decide +kernel)) (by decide +kernel)
theorem mw_280 : Cond.fieldLink "RecordLake$SchemaReader" 15 "RecordLake$SchemaReader" "schemas" "LRecordLake$Schemas;" ∈ gW := gw_of (List.mem_of_getElem? (i := 280) (by decide +kernel)) (by decide +kernel)
theorem mw_281 : Cond.fieldLink "RecordLake$SchemaReader" 24 "RecordLake$SchemaReader" "defaults" "LRecordLake$Defaults;" ∈ gW := gw_of (List.mem_of_getElem? (i := 281) (by decide +kernel)) (by decide +kernel)
theorem mw_300 : Cond.code ⟨"RecordLake$PlainForm", "<init>", "(LRecordLake$Schemas;)V"⟩ prog_8_method_1_code 2 none ∈ gW := gw_of (List.mem_of_getElem? (i := 300) (by decide +kernel)) (by decide +kernel)
theorem mw_301 : Cond.methodLink "RecordLake$PlainForm" 3 ⟨"java/lang/Object", "<init>", "()V"⟩ ∈ gW := gw_of (List.mem_of_getElem? (i := 301) (by decide +kernel)) (by decide +kernel)
theorem mw_302 : Cond.classLink "RecordLake$PlainForm" 9 "RecordLake$Bytes" ∈ gW := gw_of (List.mem_of_getElem? (i := 302) (by decide +kernel)) (by decide +kernel)
theorem mw_303 : Cond.methodLink "RecordLake$PlainForm" 11 ⟨"RecordLake$Bytes", "<init>", "(I)V"⟩ ∈ gW := gw_of (List.mem_of_getElem? (i := 303) (by decide +kernel)) (by decide +kernel)
theorem mw_304 : Cond.fieldLink "RecordLake$PlainForm" 26 "RecordLake$PlainForm" "schemas" "LRecordLake$Schemas;" ∈ gW := gw_of (List.mem_of_getElem? (i := 304) (by decide +kernel)) (by decide +kernel)
theorem mw_305 : Cond.fieldLink "RecordLake$PlainForm" 14 "RecordLake$PlainForm" "one" "LRecordLake$Bytes;" ∈ gW := gw_of (List.mem_of_getElem? (i := 305) (by decide +kernel)) (by decide +kernel)
theorem mw_306 : Cond.fieldLink "RecordLake$PlainForm" 20 "RecordLake$PlainForm" "another" "LRecordLake$Bytes;" ∈ gW := gw_of (List.mem_of_getElem? (i := 306) (by decide +kernel)) (by decide +kernel)
theorem mw_307 : Cond.fieldLink "RecordLake$PlainForm" 23 "RecordLake$PlainForm" "form" "LRecordLake$Bytes;" ∈ gW := gw_of (List.mem_of_getElem? (i := 307) (by decide +kernel)) (by decide +kernel)
theorem mw_324 : Cond.code ⟨"RecordLake$Looker", "<init>", "(LRecordLake$Schemas;)V"⟩ prog_6_method_1_code 2 none ∈ gW := gw_of (List.mem_of_getElem? (i := 324) (by decide +kernel)) (by decide +kernel)
theorem mw_325 : Cond.methodLink "RecordLake$Looker" 3 ⟨"java/lang/Object", "<init>", "()V"⟩ ∈ gW := gw_of (List.mem_of_getElem? (i := 325) (by decide +kernel)) (by decide +kernel)
theorem mw_326 : Cond.classLink "RecordLake$Looker" 9 "RecordLake$Bytes" ∈ gW := gw_of (List.mem_of_getElem? (i := 326) (by decide +kernel)) (by decide +kernel)
theorem mw_327 : Cond.methodLink "RecordLake$Looker" 11 ⟨"RecordLake$Bytes", "<init>", "(I)V"⟩ ∈ gW := gw_of (List.mem_of_getElem? (i := 327) (by decide +kernel)) (by decide +kernel)
theorem mw_328 : Cond.fieldLink "RecordLake$Looker" 14 "RecordLake$Looker" "normal" "LRecordLake$Bytes;" ∈ gW := gw_of (List.mem_of_getElem? (i := 328) (by decide +kernel)) (by decide +kernel)
theorem mw_337 : Cond.fieldLink "RecordLake$Looker" 27 "RecordLake$Looker" "schemas" "LRecordLake$Schemas;" ∈ gW := gw_of (List.mem_of_getElem? (i := 337) (by decide +kernel)) (by decide +kernel)
theorem mw_338 : Cond.fieldLink "RecordLake$Looker" 24 "RecordLake$Looker" "source" "[B" ∈ gW := gw_of (List.mem_of_getElem? (i := 338) (by decide +kernel)) (by decide +kernel)
theorem mw_367 : Cond.code ⟨"RecordLake$Matching", "<init>", "(LRecordLake$Schemas;)V"⟩ prog_7_method_1_code 2 none ∈ gW := gw_of (List.mem_of_getElem? (i := 367) (by decide +kernel)) (by decide +kernel)
theorem mw_368 : Cond.methodLink "RecordLake$Matching" 5 ⟨"java/lang/Object", "<init>", "()V"⟩ ∈ gW := gw_of (List.mem_of_getElem? (i := 368) (by decide +kernel)) (by decide +kernel)
theorem mw_369 : Cond.fieldLink "RecordLake$Matching" 20 "RecordLake$Matching" "schemas" "LRecordLake$Schemas;" ∈ gW := gw_of (List.mem_of_getElem? (i := 369) (by decide +kernel)) (by decide +kernel)
theorem mw_370 : Cond.fieldLink "RecordLake$Matching" 13 "RecordLake$Matching" "askedIn" "[I" ∈ gW := gw_of (List.mem_of_getElem? (i := 370) (by decide +kernel)) (by decide +kernel)
theorem mw_371 : Cond.fieldLink "RecordLake$Matching" 17 "RecordLake$Matching" "pairs" "[I" ∈ gW := gw_of (List.mem_of_getElem? (i := 371) (by decide +kernel)) (by decide +kernel)
theorem mw_395 : Cond.code ⟨"RecordLake$Teller", "<init>", "(LRecordLake$Schemas;LRecordLake$Matching;)V"⟩ prog_11_method_1_code 3 none ∈ gW := gw_of (List.mem_of_getElem? (i := 395) (by decide +kernel)) (by decide +kernel)
theorem mw_396 : Cond.methodLink "RecordLake$Teller" 3 ⟨"java/lang/Object", "<init>", "()V"⟩ ∈ gW := gw_of (List.mem_of_getElem? (i := 396) (by decide +kernel)) (by decide +kernel)
theorem mw_397 : Cond.classLink "RecordLake$Teller" 23 "RecordLake$Bytes" ∈ gW := gw_of (List.mem_of_getElem? (i := 397) (by decide +kernel)) (by decide +kernel)
theorem mw_398 : Cond.methodLink "RecordLake$Teller" 25 ⟨"RecordLake$Bytes", "<init>", "(I)V"⟩ ∈ gW := gw_of (List.mem_of_getElem? (i := 398) (by decide +kernel)) (by decide +kernel)
theorem mw_403 : Cond.fieldLink "RecordLake$Teller" 15 "RecordLake$Teller" "schemas" "LRecordLake$Schemas;" ∈ gW := gw_of (List.mem_of_getElem? (i := 403) (by decide +kernel)) (by decide +kernel)
theorem mw_404 : Cond.fieldLink "RecordLake$Teller" 19 "RecordLake$Teller" "matching" "LRecordLake$Matching;" ∈ gW := gw_of (List.mem_of_getElem? (i := 404) (by decide +kernel)) (by decide +kernel)
theorem mw_405 : Cond.fieldLink "RecordLake$Teller" 9 "RecordLake$Teller" "fieldBegins" "[I" ∈ gW := gw_of (List.mem_of_getElem? (i := 405) (by decide +kernel)) (by decide +kernel)
theorem mw_406 : Cond.fieldLink "RecordLake$Teller" 36 "RecordLake$Teller" "source" "[B" ∈ gW := gw_of (List.mem_of_getElem? (i := 406) (by decide +kernel)) (by decide +kernel)
theorem mw_407 : Cond.fieldLink "RecordLake$Teller" 28 "RecordLake$Teller" "sink" "LRecordLake$Bytes;" ∈ gW := gw_of (List.mem_of_getElem? (i := 407) (by decide +kernel)) (by decide +kernel)
theorem mw_427 : Cond.code ⟨"RecordLake$Disk", "<init>", "()V"⟩ prog_4_method_1_code 1 none ∈ gW := gw_of (List.mem_of_getElem? (i := 427) (by decide +kernel)) (by decide +kernel)
theorem mw_428 : Cond.methodLink "RecordLake$Disk" 3 ⟨"java/lang/Object", "<init>", "()V"⟩ ∈ gW := gw_of (List.mem_of_getElem? (i := 428) (by decide +kernel)) (by decide +kernel)
theorem mw_429 : Cond.constant "RecordLake$Disk" 9 (32768 : Int32) ∈ gW := gw_of (List.mem_of_getElem? (i := 429) (by decide +kernel)) (by decide +kernel)
theorem mw_430 : Cond.fieldLink "RecordLake$Disk" 10 "RecordLake$Disk" "bytes" "[B" ∈ gW := gw_of (List.mem_of_getElem? (i := 430) (by decide +kernel)) (by decide +kernel)
theorem mw_433 : Cond.fieldLink "RecordLake$Disk" 16 "RecordLake$Disk" "untilLoss" "I" ∈ gW := gw_of (List.mem_of_getElem? (i := 433) (by decide +kernel)) (by decide +kernel)
theorem mw_444 : Cond.code ⟨"RecordLake$FileList", "<init>", "()V"⟩ prog_5_method_1_code 1 none ∈ gW := gw_of (List.mem_of_getElem? (i := 444) (by decide +kernel)) (by decide +kernel)
theorem mw_445 : Cond.methodLink "RecordLake$FileList" 5 ⟨"java/lang/Object", "<init>", "()V"⟩ ∈ gW := gw_of (List.mem_of_getElem? (i := 445) (by decide +kernel)) (by decide +kernel)
theorem mw_446 : Cond.classLink "RecordLake$FileList" 27 "RecordLake$Bytes" ∈ gW := gw_of (List.mem_of_getElem? (i := 446) (by decide +kernel)) (by decide +kernel)
theorem mw_447 : Cond.methodLink "RecordLake$FileList" 29 ⟨"RecordLake$Bytes", "<init>", "(I)V"⟩ ∈ gW := gw_of (List.mem_of_getElem? (i := 447) (by decide +kernel)) (by decide +kernel)
theorem mw_448 : Cond.fieldLink "RecordLake$FileList" 11 "RecordLake$FileList" "owner" "[I" ∈ gW := gw_of (List.mem_of_getElem? (i := 448) (by decide +kernel)) (by decide +kernel)
theorem mw_450 : Cond.fieldLink "RecordLake$FileList" 15 "RecordLake$FileList" "version" "[I" ∈ gW := gw_of (List.mem_of_getElem? (i := 450) (by decide +kernel)) (by decide +kernel)
theorem mw_452 : Cond.fieldLink "RecordLake$FileList" 18 "RecordLake$FileList" "first" "[I" ∈ gW := gw_of (List.mem_of_getElem? (i := 452) (by decide +kernel)) (by decide +kernel)
theorem mw_454 : Cond.fieldLink "RecordLake$FileList" 21 "RecordLake$FileList" "wants" "[I" ∈ gW := gw_of (List.mem_of_getElem? (i := 454) (by decide +kernel)) (by decide +kernel)
theorem mw_456 : Cond.fieldLink "RecordLake$FileList" 24 "RecordLake$FileList" "rows" "[I" ∈ gW := gw_of (List.mem_of_getElem? (i := 456) (by decide +kernel)) (by decide +kernel)
theorem mw_461 : Cond.fieldLink "RecordLake$FileList" 32 "RecordLake$FileList" "block" "LRecordLake$Bytes;" ∈ gW := gw_of (List.mem_of_getElem? (i := 461) (by decide +kernel)) (by decide +kernel)
theorem mw_462 : Cond.fieldLink "RecordLake$FileList" 36 "RecordLake$FileList" "isUsed" "[Z" ∈ gW := gw_of (List.mem_of_getElem? (i := 462) (by decide +kernel)) (by decide +kernel)
theorem mw_482 : Cond.arrayClass .boolean ∈ gW := gw_of (List.mem_of_getElem? (i := 482) (by decide +kernel)) (by decide +kernel)
abbrev b_Tx_init : ByteArray := prog_12_method_1_code
abbrev y_Tx_init : MethodName := ⟨"RecordLake$Text", "<init>", "()V"⟩
abbrev w_Tx_init : List Cond := Cond.code y_Tx_init b_Tx_init 1 none :: gW
theorem d_Tx_init_0 : decode b_Tx_init 0 = .ok (.aload_n 0, 1) := by decide +kernel
theorem d_Tx_init_1 : decode b_Tx_init 1 = .ok (.invokespecial 3, 3) := by decide +kernel
theorem d_Tx_init_4 : decode b_Tx_init 4 = .ok (.aload_n 0, 1) := by decide +kernel
theorem d_Tx_init_5 : decode b_Tx_init 5 = .ok (.sipush 4096, 3) := by decide +kernel
theorem d_Tx_init_8 : decode b_Tx_init 8 = .ok (.newarray .int, 2) := by decide +kernel
theorem d_Tx_init_10 : decode b_Tx_init 10 = .ok (.putfield 9, 3) := by decide +kernel
theorem d_Tx_init_13 : decode b_Tx_init 13 = .ok (.aload_n 0, 1) := by decide +kernel
theorem d_Tx_init_14 : decode b_Tx_init 14 = .ok (.sipush 4096, 3) := by decide +kernel
theorem d_Tx_init_17 : decode b_Tx_init 17 = .ok (.newarray .int, 2) := by decide +kernel
theorem d_Tx_init_19 : decode b_Tx_init 19 = .ok (.putfield 15, 3) := by decide +kernel
theorem d_Tx_init_22 : decode b_Tx_init 22 = .ok (.aload_n 0, 1) := by decide +kernel
theorem d_Tx_init_23 : decode b_Tx_init 23 = .ok (.sipush 4096, 3) := by decide +kernel
theorem d_Tx_init_26 : decode b_Tx_init 26 = .ok (.newarray .int, 2) := by decide +kernel
theorem d_Tx_init_28 : decode b_Tx_init 28 = .ok (.putfield 18, 3) := by decide +kernel
theorem d_Tx_init_31 : decode b_Tx_init 31 = .ok (.aload_n 0, 1) := by decide +kernel
theorem d_Tx_init_32 : decode b_Tx_init 32 = .ok (.sipush 4096, 3) := by decide +kernel
theorem d_Tx_init_35 : decode b_Tx_init 35 = .ok (.newarray .int, 2) := by decide +kernel
theorem d_Tx_init_37 : decode b_Tx_init 37 = .ok (.putfield 21, 3) := by decide +kernel
theorem d_Tx_init_40 : decode b_Tx_init 40 = .ok (.aload_n 0, 1) := by decide +kernel
theorem d_Tx_init_41 : decode b_Tx_init 41 = .ok (.sipush 4096, 3) := by decide +kernel
theorem d_Tx_init_44 : decode b_Tx_init 44 = .ok (.newarray .int, 2) := by decide +kernel
theorem d_Tx_init_46 : decode b_Tx_init 46 = .ok (.putfield 24, 3) := by decide +kernel
theorem d_Tx_init_49 : decode b_Tx_init 49 = .ok (.aload_n 0, 1) := by decide +kernel
theorem d_Tx_init_50 : decode b_Tx_init 50 = .ok (.sipush 4096, 3) := by decide +kernel
theorem d_Tx_init_53 : decode b_Tx_init 53 = .ok (.newarray .long, 2) := by decide +kernel
theorem d_Tx_init_55 : decode b_Tx_init 55 = .ok (.putfield 27, 3) := by decide +kernel
theorem d_Tx_init_58 : decode b_Tx_init 58 = .ok (.aload_n 0, 1) := by decide +kernel
theorem d_Tx_init_59 : decode b_Tx_init 59 = .ok (.new 31, 3) := by decide +kernel
theorem d_Tx_init_62 : decode b_Tx_init 62 = .ok (.dup, 1) := by decide +kernel
theorem d_Tx_init_63 : decode b_Tx_init 63 = .ok (.sipush 4096, 3) := by decide +kernel
theorem d_Tx_init_66 : decode b_Tx_init 66 = .ok (.invokespecial 33, 3) := by decide +kernel
theorem d_Tx_init_69 : decode b_Tx_init 69 = .ok (.putfield 36, 3) := by decide +kernel
theorem d_Tx_init_72 : decode b_Tx_init 72 = .ok (.aload_n 0, 1) := by decide +kernel
theorem d_Tx_init_73 : decode b_Tx_init 73 = .ok (.aload_n 0, 1) := by decide +kernel
theorem d_Tx_init_74 : decode b_Tx_init 74 = .ok (.getfield 36, 3) := by decide +kernel
theorem d_Tx_init_77 : decode b_Tx_init 77 = .ok (.getfield 40, 3) := by decide +kernel
theorem d_Tx_init_80 : decode b_Tx_init 80 = .ok (.putfield 44, 3) := by decide +kernel
theorem d_Tx_init_83 : decode b_Tx_init 83 = .ok (.return_, 1) := by decide +kernel
abbrev b_Dk_init : ByteArray := prog_4_method_1_code
abbrev y_Dk_init : MethodName := ⟨"RecordLake$Disk", "<init>", "()V"⟩
abbrev w_Dk_init : List Cond := Cond.code y_Dk_init b_Dk_init 1 none :: gW
theorem d_Dk_init_0 : decode b_Dk_init 0 = .ok (.aload_n 0, 1) := by decide +kernel
theorem d_Dk_init_1 : decode b_Dk_init 1 = .ok (.invokespecial 3, 3) := by decide +kernel
theorem d_Dk_init_4 : decode b_Dk_init 4 = .ok (.aload_n 0, 1) := by decide +kernel
theorem d_Dk_init_5 : decode b_Dk_init 5 = .ok (.ldc 9, 2) := by decide +kernel
theorem d_Dk_init_7 : decode b_Dk_init 7 = .ok (.newarray .byte, 2) := by decide +kernel
theorem d_Dk_init_9 : decode b_Dk_init 9 = .ok (.putfield 10, 3) := by decide +kernel
theorem d_Dk_init_12 : decode b_Dk_init 12 = .ok (.aload_n 0, 1) := by decide +kernel
theorem d_Dk_init_13 : decode b_Dk_init 13 = .ok (.iconst (-1), 1) := by decide +kernel
theorem d_Dk_init_14 : decode b_Dk_init 14 = .ok (.putfield 16, 3) := by decide +kernel
theorem d_Dk_init_17 : decode b_Dk_init 17 = .ok (.return_, 1) := by decide +kernel
abbrev b_Fl_init : ByteArray := prog_5_method_1_code
abbrev y_Fl_init : MethodName := ⟨"RecordLake$FileList", "<init>", "()V"⟩
abbrev w_Fl_init : List Cond := Cond.code y_Fl_init b_Fl_init 1 none :: gW
theorem d_Fl_init_0 : decode b_Fl_init 0 = .ok (.aload_n 0, 1) := by decide +kernel
theorem d_Fl_init_1 : decode b_Fl_init 1 = .ok (.invokespecial 5, 3) := by decide +kernel
theorem d_Fl_init_4 : decode b_Fl_init 4 = .ok (.aload_n 0, 1) := by decide +kernel
theorem d_Fl_init_5 : decode b_Fl_init 5 = .ok (.bipush 40, 2) := by decide +kernel
theorem d_Fl_init_7 : decode b_Fl_init 7 = .ok (.newarray .int, 2) := by decide +kernel
theorem d_Fl_init_9 : decode b_Fl_init 9 = .ok (.putfield 11, 3) := by decide +kernel
theorem d_Fl_init_12 : decode b_Fl_init 12 = .ok (.aload_n 0, 1) := by decide +kernel
theorem d_Fl_init_13 : decode b_Fl_init 13 = .ok (.bipush 40, 2) := by decide +kernel
theorem d_Fl_init_15 : decode b_Fl_init 15 = .ok (.newarray .int, 2) := by decide +kernel
theorem d_Fl_init_17 : decode b_Fl_init 17 = .ok (.putfield 15, 3) := by decide +kernel
theorem d_Fl_init_20 : decode b_Fl_init 20 = .ok (.aload_n 0, 1) := by decide +kernel
theorem d_Fl_init_21 : decode b_Fl_init 21 = .ok (.bipush 40, 2) := by decide +kernel
theorem d_Fl_init_23 : decode b_Fl_init 23 = .ok (.newarray .int, 2) := by decide +kernel
theorem d_Fl_init_25 : decode b_Fl_init 25 = .ok (.putfield 18, 3) := by decide +kernel
theorem d_Fl_init_28 : decode b_Fl_init 28 = .ok (.aload_n 0, 1) := by decide +kernel
theorem d_Fl_init_29 : decode b_Fl_init 29 = .ok (.bipush 40, 2) := by decide +kernel
theorem d_Fl_init_31 : decode b_Fl_init 31 = .ok (.newarray .int, 2) := by decide +kernel
theorem d_Fl_init_33 : decode b_Fl_init 33 = .ok (.putfield 21, 3) := by decide +kernel
theorem d_Fl_init_36 : decode b_Fl_init 36 = .ok (.aload_n 0, 1) := by decide +kernel
theorem d_Fl_init_37 : decode b_Fl_init 37 = .ok (.bipush 40, 2) := by decide +kernel
theorem d_Fl_init_39 : decode b_Fl_init 39 = .ok (.newarray .int, 2) := by decide +kernel
theorem d_Fl_init_41 : decode b_Fl_init 41 = .ok (.putfield 24, 3) := by decide +kernel
theorem d_Fl_init_44 : decode b_Fl_init 44 = .ok (.aload_n 0, 1) := by decide +kernel
theorem d_Fl_init_45 : decode b_Fl_init 45 = .ok (.new 27, 3) := by decide +kernel
theorem d_Fl_init_48 : decode b_Fl_init 48 = .ok (.dup, 1) := by decide +kernel
theorem d_Fl_init_49 : decode b_Fl_init 49 = .ok (.sipush 256, 3) := by decide +kernel
theorem d_Fl_init_52 : decode b_Fl_init 52 = .ok (.invokespecial 29, 3) := by decide +kernel
theorem d_Fl_init_55 : decode b_Fl_init 55 = .ok (.putfield 32, 3) := by decide +kernel
theorem d_Fl_init_58 : decode b_Fl_init 58 = .ok (.aload_n 0, 1) := by decide +kernel
theorem d_Fl_init_59 : decode b_Fl_init 59 = .ok (.sipush 128, 3) := by decide +kernel
theorem d_Fl_init_62 : decode b_Fl_init 62 = .ok (.newarray .boolean, 2) := by decide +kernel
theorem d_Fl_init_64 : decode b_Fl_init 64 = .ok (.putfield 36, 3) := by decide +kernel
theorem d_Fl_init_67 : decode b_Fl_init 67 = .ok (.return_, 1) := by decide +kernel
abbrev b_Df_init : ByteArray := prog_3_method_1_code
abbrev y_Df_init : MethodName := ⟨"RecordLake$Defaults", "<init>", "(LRecordLake$Text;LRecordLake$Schemas;)V"⟩
abbrev w_Df_init : List Cond := Cond.code y_Df_init b_Df_init 3 none :: gW
theorem d_Df_init_0 : decode b_Df_init 0 = .ok (.aload_n 0, 1) := by decide +kernel
theorem d_Df_init_1 : decode b_Df_init 1 = .ok (.invokespecial 3, 3) := by decide +kernel
theorem d_Df_init_4 : decode b_Df_init 4 = .ok (.aload_n 0, 1) := by decide +kernel
theorem d_Df_init_5 : decode b_Df_init 5 = .ok (.sipush 128, 3) := by decide +kernel
theorem d_Df_init_8 : decode b_Df_init 8 = .ok (.newarray .int, 2) := by decide +kernel
theorem d_Df_init_10 : decode b_Df_init 10 = .ok (.putfield 11, 3) := by decide +kernel
theorem d_Df_init_13 : decode b_Df_init 13 = .ok (.aload_n 0, 1) := by decide +kernel
theorem d_Df_init_14 : decode b_Df_init 14 = .ok (.sipush 128, 3) := by decide +kernel
theorem d_Df_init_17 : decode b_Df_init 17 = .ok (.newarray .int, 2) := by decide +kernel
theorem d_Df_init_19 : decode b_Df_init 19 = .ok (.putfield 17, 3) := by decide +kernel
theorem d_Df_init_22 : decode b_Df_init 22 = .ok (.aload_n 0, 1) := by decide +kernel
theorem d_Df_init_23 : decode b_Df_init 23 = .ok (.aload_n 1, 1) := by decide +kernel
theorem d_Df_init_24 : decode b_Df_init 24 = .ok (.putfield 20, 3) := by decide +kernel
theorem d_Df_init_27 : decode b_Df_init 27 = .ok (.aload_n 0, 1) := by decide +kernel
theorem d_Df_init_28 : decode b_Df_init 28 = .ok (.aload_n 2, 1) := by decide +kernel
theorem d_Df_init_29 : decode b_Df_init 29 = .ok (.putfield 24, 3) := by decide +kernel
theorem d_Df_init_32 : decode b_Df_init 32 = .ok (.return_, 1) := by decide +kernel
abbrev b_Sr_init : ByteArray := prog_9_method_1_code
abbrev y_Sr_init : MethodName := ⟨"RecordLake$SchemaReader", "<init>", "(LRecordLake$Text;LRecordLake$Schemas;)V"⟩
abbrev w_Sr_init : List Cond := Cond.code y_Sr_init b_Sr_init 3 none :: gW
theorem d_Sr_init_0 : decode b_Sr_init 0 = .ok (.aload_n 0, 1) := by decide +kernel
theorem d_Sr_init_1 : decode b_Sr_init 1 = .ok (.invokespecial 3, 3) := by decide +kernel
theorem d_Sr_init_4 : decode b_Sr_init 4 = .ok (.aload_n 0, 1) := by decide +kernel
theorem d_Sr_init_5 : decode b_Sr_init 5 = .ok (.aload_n 1, 1) := by decide +kernel
theorem d_Sr_init_6 : decode b_Sr_init 6 = .ok (.putfield 9, 3) := by decide +kernel
theorem d_Sr_init_9 : decode b_Sr_init 9 = .ok (.aload_n 0, 1) := by decide +kernel
theorem d_Sr_init_10 : decode b_Sr_init 10 = .ok (.aload_n 2, 1) := by decide +kernel
theorem d_Sr_init_11 : decode b_Sr_init 11 = .ok (.putfield 15, 3) := by decide +kernel
theorem d_Sr_init_14 : decode b_Sr_init 14 = .ok (.aload_n 0, 1) := by decide +kernel
theorem d_Sr_init_15 : decode b_Sr_init 15 = .ok (.new 19, 3) := by decide +kernel
theorem d_Sr_init_18 : decode b_Sr_init 18 = .ok (.dup, 1) := by decide +kernel
theorem d_Sr_init_19 : decode b_Sr_init 19 = .ok (.aload_n 1, 1) := by decide +kernel
theorem d_Sr_init_20 : decode b_Sr_init 20 = .ok (.aload_n 2, 1) := by decide +kernel
theorem d_Sr_init_21 : decode b_Sr_init 21 = .ok (.invokespecial 21, 3) := by decide +kernel
theorem d_Sr_init_24 : decode b_Sr_init 24 = .ok (.putfield 24, 3) := by decide +kernel
theorem d_Sr_init_27 : decode b_Sr_init 27 = .ok (.aload_n 0, 1) := by decide +kernel
theorem d_Sr_init_28 : decode b_Sr_init 28 = .ok (.iconst 0, 1) := by decide +kernel
theorem d_Sr_init_29 : decode b_Sr_init 29 = .ok (.putfield 28, 3) := by decide +kernel
theorem d_Sr_init_32 : decode b_Sr_init 32 = .ok (.aload_n 0, 1) := by decide +kernel
theorem d_Sr_init_33 : decode b_Sr_init 33 = .ok (.iconst (-1), 1) := by decide +kernel
theorem d_Sr_init_34 : decode b_Sr_init 34 = .ok (.putfield 32, 3) := by decide +kernel
theorem d_Sr_init_37 : decode b_Sr_init 37 = .ok (.return_, 1) := by decide +kernel
abbrev b_Pf_init : ByteArray := prog_8_method_1_code
abbrev y_Pf_init : MethodName := ⟨"RecordLake$PlainForm", "<init>", "(LRecordLake$Schemas;)V"⟩
abbrev w_Pf_init : List Cond := Cond.code y_Pf_init b_Pf_init 2 none :: gW
theorem d_Pf_init_0 : decode b_Pf_init 0 = .ok (.aload_n 0, 1) := by decide +kernel
theorem d_Pf_init_1 : decode b_Pf_init 1 = .ok (.invokespecial 3, 3) := by decide +kernel
theorem d_Pf_init_4 : decode b_Pf_init 4 = .ok (.aload_n 0, 1) := by decide +kernel
theorem d_Pf_init_5 : decode b_Pf_init 5 = .ok (.new 9, 3) := by decide +kernel
theorem d_Pf_init_8 : decode b_Pf_init 8 = .ok (.dup, 1) := by decide +kernel
theorem d_Pf_init_9 : decode b_Pf_init 9 = .ok (.sipush 4096, 3) := by decide +kernel
theorem d_Pf_init_12 : decode b_Pf_init 12 = .ok (.invokespecial 11, 3) := by decide +kernel
theorem d_Pf_init_15 : decode b_Pf_init 15 = .ok (.putfield 14, 3) := by decide +kernel
theorem d_Pf_init_18 : decode b_Pf_init 18 = .ok (.aload_n 0, 1) := by decide +kernel
theorem d_Pf_init_19 : decode b_Pf_init 19 = .ok (.new 9, 3) := by decide +kernel
theorem d_Pf_init_22 : decode b_Pf_init 22 = .ok (.dup, 1) := by decide +kernel
theorem d_Pf_init_23 : decode b_Pf_init 23 = .ok (.sipush 4096, 3) := by decide +kernel
theorem d_Pf_init_26 : decode b_Pf_init 26 = .ok (.invokespecial 11, 3) := by decide +kernel
theorem d_Pf_init_29 : decode b_Pf_init 29 = .ok (.putfield 20, 3) := by decide +kernel
theorem d_Pf_init_32 : decode b_Pf_init 32 = .ok (.aload_n 0, 1) := by decide +kernel
theorem d_Pf_init_33 : decode b_Pf_init 33 = .ok (.aload_n 0, 1) := by decide +kernel
theorem d_Pf_init_34 : decode b_Pf_init 34 = .ok (.getfield 14, 3) := by decide +kernel
theorem d_Pf_init_37 : decode b_Pf_init 37 = .ok (.putfield 23, 3) := by decide +kernel
theorem d_Pf_init_40 : decode b_Pf_init 40 = .ok (.aload_n 0, 1) := by decide +kernel
theorem d_Pf_init_41 : decode b_Pf_init 41 = .ok (.aload_n 1, 1) := by decide +kernel
theorem d_Pf_init_42 : decode b_Pf_init 42 = .ok (.putfield 26, 3) := by decide +kernel
theorem d_Pf_init_45 : decode b_Pf_init 45 = .ok (.return_, 1) := by decide +kernel
abbrev b_Lo_init : ByteArray := prog_6_method_1_code
abbrev y_Lo_init : MethodName := ⟨"RecordLake$Looker", "<init>", "(LRecordLake$Schemas;)V"⟩
abbrev w_Lo_init : List Cond := Cond.code y_Lo_init b_Lo_init 2 none :: gW
theorem d_Lo_init_0 : decode b_Lo_init 0 = .ok (.aload_n 0, 1) := by decide +kernel
theorem d_Lo_init_1 : decode b_Lo_init 1 = .ok (.invokespecial 3, 3) := by decide +kernel
theorem d_Lo_init_4 : decode b_Lo_init 4 = .ok (.aload_n 0, 1) := by decide +kernel
theorem d_Lo_init_5 : decode b_Lo_init 5 = .ok (.new 9, 3) := by decide +kernel
theorem d_Lo_init_8 : decode b_Lo_init 8 = .ok (.dup, 1) := by decide +kernel
theorem d_Lo_init_9 : decode b_Lo_init 9 = .ok (.sipush 4096, 3) := by decide +kernel
theorem d_Lo_init_12 : decode b_Lo_init 12 = .ok (.invokespecial 11, 3) := by decide +kernel
theorem d_Lo_init_15 : decode b_Lo_init 15 = .ok (.putfield 14, 3) := by decide +kernel
theorem d_Lo_init_18 : decode b_Lo_init 18 = .ok (.aload_n 0, 1) := by decide +kernel
theorem d_Lo_init_19 : decode b_Lo_init 19 = .ok (.aload_n 0, 1) := by decide +kernel
theorem d_Lo_init_20 : decode b_Lo_init 20 = .ok (.getfield 14, 3) := by decide +kernel
theorem d_Lo_init_23 : decode b_Lo_init 23 = .ok (.getfield 20, 3) := by decide +kernel
theorem d_Lo_init_26 : decode b_Lo_init 26 = .ok (.putfield 24, 3) := by decide +kernel
theorem d_Lo_init_29 : decode b_Lo_init 29 = .ok (.aload_n 0, 1) := by decide +kernel
theorem d_Lo_init_30 : decode b_Lo_init 30 = .ok (.aload_n 1, 1) := by decide +kernel
theorem d_Lo_init_31 : decode b_Lo_init 31 = .ok (.putfield 27, 3) := by decide +kernel
theorem d_Lo_init_34 : decode b_Lo_init 34 = .ok (.return_, 1) := by decide +kernel
abbrev b_Ma_init : ByteArray := prog_7_method_1_code
abbrev y_Ma_init : MethodName := ⟨"RecordLake$Matching", "<init>", "(LRecordLake$Schemas;)V"⟩
abbrev w_Ma_init : List Cond := Cond.code y_Ma_init b_Ma_init 2 none :: gW
theorem d_Ma_init_0 : decode b_Ma_init 0 = .ok (.aload_n 0, 1) := by decide +kernel
theorem d_Ma_init_1 : decode b_Ma_init 1 = .ok (.invokespecial 5, 3) := by decide +kernel
theorem d_Ma_init_4 : decode b_Ma_init 4 = .ok (.aload_n 0, 1) := by decide +kernel
theorem d_Ma_init_5 : decode b_Ma_init 5 = .ok (.sipush 17956, 3) := by decide +kernel
theorem d_Ma_init_8 : decode b_Ma_init 8 = .ok (.newarray .int, 2) := by decide +kernel
theorem d_Ma_init_10 : decode b_Ma_init 10 = .ok (.putfield 13, 3) := by decide +kernel
theorem d_Ma_init_13 : decode b_Ma_init 13 = .ok (.aload_n 0, 1) := by decide +kernel
theorem d_Ma_init_14 : decode b_Ma_init 14 = .ok (.sipush 17956, 3) := by decide +kernel
theorem d_Ma_init_17 : decode b_Ma_init 17 = .ok (.newarray .int, 2) := by decide +kernel
theorem d_Ma_init_19 : decode b_Ma_init 19 = .ok (.putfield 17, 3) := by decide +kernel
theorem d_Ma_init_22 : decode b_Ma_init 22 = .ok (.aload_n 0, 1) := by decide +kernel
theorem d_Ma_init_23 : decode b_Ma_init 23 = .ok (.aload_n 1, 1) := by decide +kernel
theorem d_Ma_init_24 : decode b_Ma_init 24 = .ok (.putfield 20, 3) := by decide +kernel
theorem d_Ma_init_27 : decode b_Ma_init 27 = .ok (.return_, 1) := by decide +kernel
abbrev b_Te_init : ByteArray := prog_11_method_1_code
abbrev y_Te_init : MethodName := ⟨"RecordLake$Teller", "<init>", "(LRecordLake$Schemas;LRecordLake$Matching;)V"⟩
abbrev w_Te_init : List Cond := Cond.code y_Te_init b_Te_init 3 none :: gW
theorem d_Te_init_0 : decode b_Te_init 0 = .ok (.aload_n 0, 1) := by decide +kernel
theorem d_Te_init_1 : decode b_Te_init 1 = .ok (.invokespecial 3, 3) := by decide +kernel
theorem d_Te_init_4 : decode b_Te_init 4 = .ok (.aload_n 0, 1) := by decide +kernel
theorem d_Te_init_5 : decode b_Te_init 5 = .ok (.sipush 1024, 3) := by decide +kernel
theorem d_Te_init_8 : decode b_Te_init 8 = .ok (.newarray .int, 2) := by decide +kernel
theorem d_Te_init_10 : decode b_Te_init 10 = .ok (.putfield 9, 3) := by decide +kernel
theorem d_Te_init_13 : decode b_Te_init 13 = .ok (.aload_n 0, 1) := by decide +kernel
theorem d_Te_init_14 : decode b_Te_init 14 = .ok (.aload_n 1, 1) := by decide +kernel
theorem d_Te_init_15 : decode b_Te_init 15 = .ok (.putfield 15, 3) := by decide +kernel
theorem d_Te_init_18 : decode b_Te_init 18 = .ok (.aload_n 0, 1) := by decide +kernel
theorem d_Te_init_19 : decode b_Te_init 19 = .ok (.aload_n 2, 1) := by decide +kernel
theorem d_Te_init_20 : decode b_Te_init 20 = .ok (.putfield 19, 3) := by decide +kernel
theorem d_Te_init_23 : decode b_Te_init 23 = .ok (.aload_n 0, 1) := by decide +kernel
theorem d_Te_init_24 : decode b_Te_init 24 = .ok (.new 23, 3) := by decide +kernel
theorem d_Te_init_27 : decode b_Te_init 27 = .ok (.dup, 1) := by decide +kernel
theorem d_Te_init_28 : decode b_Te_init 28 = .ok (.iconst 0, 1) := by decide +kernel
theorem d_Te_init_29 : decode b_Te_init 29 = .ok (.invokespecial 25, 3) := by decide +kernel
theorem d_Te_init_32 : decode b_Te_init 32 = .ok (.putfield 28, 3) := by decide +kernel
theorem d_Te_init_35 : decode b_Te_init 35 = .ok (.aload_n 0, 1) := by decide +kernel
theorem d_Te_init_36 : decode b_Te_init 36 = .ok (.aload_n 0, 1) := by decide +kernel
theorem d_Te_init_37 : decode b_Te_init 37 = .ok (.getfield 28, 3) := by decide +kernel
theorem d_Te_init_40 : decode b_Te_init 40 = .ok (.getfield 32, 3) := by decide +kernel
theorem d_Te_init_43 : decode b_Te_init 43 = .ok (.putfield 36, 3) := by decide +kernel
theorem d_Te_init_46 : decode b_Te_init 46 = .ok (.return_, 1) := by decide +kernel
abbrev b_Sc_init : ByteArray := prog_10_method_1_code
abbrev y_Sc_init : MethodName := ⟨"RecordLake$Schemas", "<init>", "()V"⟩
abbrev w_Sc_init : List Cond := Cond.code y_Sc_init b_Sc_init 2 none :: gW
theorem d_Sc_init_0 : decode b_Sc_init 0 = .ok (.aload_n 0, 1) := by decide +kernel
theorem d_Sc_init_1 : decode b_Sc_init 1 = .ok (.invokespecial 5, 3) := by decide +kernel
theorem d_Sc_init_4 : decode b_Sc_init 4 = .ok (.aload_n 0, 1) := by decide +kernel
theorem d_Sc_init_5 : decode b_Sc_init 5 = .ok (.sipush 5254, 3) := by decide +kernel
theorem d_Sc_init_8 : decode b_Sc_init 8 = .ok (.newarray .int, 2) := by decide +kernel
theorem d_Sc_init_10 : decode b_Sc_init 10 = .ok (.putfield 11, 3) := by decide +kernel
theorem d_Sc_init_13 : decode b_Sc_init 13 = .ok (.aload_n 0, 1) := by decide +kernel
theorem d_Sc_init_14 : decode b_Sc_init 14 = .ok (.sipush 5254, 3) := by decide +kernel
theorem d_Sc_init_17 : decode b_Sc_init 17 = .ok (.newarray .int, 2) := by decide +kernel
theorem d_Sc_init_19 : decode b_Sc_init 19 = .ok (.putfield 15, 3) := by decide +kernel
theorem d_Sc_init_22 : decode b_Sc_init 22 = .ok (.aload_n 0, 1) := by decide +kernel
theorem d_Sc_init_23 : decode b_Sc_init 23 = .ok (.sipush 5254, 3) := by decide +kernel
theorem d_Sc_init_26 : decode b_Sc_init 26 = .ok (.newarray .int, 2) := by decide +kernel
theorem d_Sc_init_28 : decode b_Sc_init 28 = .ok (.putfield 18, 3) := by decide +kernel
theorem d_Sc_init_31 : decode b_Sc_init 31 = .ok (.aload_n 0, 1) := by decide +kernel
theorem d_Sc_init_32 : decode b_Sc_init 32 = .ok (.sipush 5254, 3) := by decide +kernel
theorem d_Sc_init_35 : decode b_Sc_init 35 = .ok (.newarray .int, 2) := by decide +kernel
theorem d_Sc_init_37 : decode b_Sc_init 37 = .ok (.putfield 21, 3) := by decide +kernel
theorem d_Sc_init_40 : decode b_Sc_init 40 = .ok (.aload_n 0, 1) := by decide +kernel
theorem d_Sc_init_41 : decode b_Sc_init 41 = .ok (.sipush 5254, 3) := by decide +kernel
theorem d_Sc_init_44 : decode b_Sc_init 44 = .ok (.newarray .int, 2) := by decide +kernel
theorem d_Sc_init_46 : decode b_Sc_init 46 = .ok (.putfield 24, 3) := by decide +kernel
theorem d_Sc_init_49 : decode b_Sc_init 49 = .ok (.aload_n 0, 1) := by decide +kernel
theorem d_Sc_init_50 : decode b_Sc_init 50 = .ok (.sipush 10112, 3) := by decide +kernel
theorem d_Sc_init_53 : decode b_Sc_init 53 = .ok (.newarray .int, 2) := by decide +kernel
theorem d_Sc_init_55 : decode b_Sc_init 55 = .ok (.putfield 27, 3) := by decide +kernel
theorem d_Sc_init_58 : decode b_Sc_init 58 = .ok (.aload_n 0, 1) := by decide +kernel
theorem d_Sc_init_59 : decode b_Sc_init 59 = .ok (.sipush 10112, 3) := by decide +kernel
theorem d_Sc_init_62 : decode b_Sc_init 62 = .ok (.newarray .int, 2) := by decide +kernel
theorem d_Sc_init_64 : decode b_Sc_init 64 = .ok (.putfield 30, 3) := by decide +kernel
theorem d_Sc_init_67 : decode b_Sc_init 67 = .ok (.aload_n 0, 1) := by decide +kernel
theorem d_Sc_init_68 : decode b_Sc_init 68 = .ok (.sipush 10112, 3) := by decide +kernel
theorem d_Sc_init_71 : decode b_Sc_init 71 = .ok (.newarray .int, 2) := by decide +kernel
theorem d_Sc_init_73 : decode b_Sc_init 73 = .ok (.putfield 33, 3) := by decide +kernel
theorem d_Sc_init_76 : decode b_Sc_init 76 = .ok (.aload_n 0, 1) := by decide +kernel
theorem d_Sc_init_77 : decode b_Sc_init 77 = .ok (.sipush 10112, 3) := by decide +kernel
theorem d_Sc_init_80 : decode b_Sc_init 80 = .ok (.newarray .int, 2) := by decide +kernel
theorem d_Sc_init_82 : decode b_Sc_init 82 = .ok (.putfield 36, 3) := by decide +kernel
theorem d_Sc_init_85 : decode b_Sc_init 85 = .ok (.aload_n 0, 1) := by decide +kernel
theorem d_Sc_init_86 : decode b_Sc_init 86 = .ok (.new 39, 3) := by decide +kernel
theorem d_Sc_init_89 : decode b_Sc_init 89 = .ok (.dup, 1) := by decide +kernel
theorem d_Sc_init_90 : decode b_Sc_init 90 = .ok (.ldc 41, 2) := by decide +kernel
theorem d_Sc_init_92 : decode b_Sc_init 92 = .ok (.invokespecial 42, 3) := by decide +kernel
theorem d_Sc_init_95 : decode b_Sc_init 95 = .ok (.putfield 45, 3) := by decide +kernel
theorem d_Sc_init_98 : decode b_Sc_init 98 = .ok (.aload_n 0, 1) := by decide +kernel
theorem d_Sc_init_99 : decode b_Sc_init 99 = .ok (.iconst 4, 1) := by decide +kernel
theorem d_Sc_init_100 : decode b_Sc_init 100 = .ok (.newarray .int, 2) := by decide +kernel
theorem d_Sc_init_102 : decode b_Sc_init 102 = .ok (.putfield 49, 3) := by decide +kernel
theorem d_Sc_init_105 : decode b_Sc_init 105 = .ok (.aload_n 0, 1) := by decide +kernel
theorem d_Sc_init_106 : decode b_Sc_init 106 = .ok (.bipush 64, 2) := by decide +kernel
theorem d_Sc_init_108 : decode b_Sc_init 108 = .ok (.newarray .int, 2) := by decide +kernel
theorem d_Sc_init_110 : decode b_Sc_init 110 = .ok (.putfield 52, 3) := by decide +kernel
theorem d_Sc_init_113 : decode b_Sc_init 113 = .ok (.aload_n 0, 1) := by decide +kernel
theorem d_Sc_init_114 : decode b_Sc_init 114 = .ok (.bipush 64, 2) := by decide +kernel
theorem d_Sc_init_116 : decode b_Sc_init 116 = .ok (.newarray .int, 2) := by decide +kernel
theorem d_Sc_init_118 : decode b_Sc_init 118 = .ok (.putfield 55, 3) := by decide +kernel
theorem d_Sc_init_121 : decode b_Sc_init 121 = .ok (.iconst 0, 1) := by decide +kernel
theorem d_Sc_init_122 : decode b_Sc_init 122 = .ok (.istore_n 1, 1) := by decide +kernel
theorem d_Sc_init_123 : decode b_Sc_init 123 = .ok (.iload_n 1, 1) := by decide +kernel
theorem d_Sc_init_124 : decode b_Sc_init 124 = .ok (.bipush 6, 2) := by decide +kernel
theorem d_Sc_init_126 : decode b_Sc_init 126 = .ok (.if_icmp .ge 23, 3) := by decide +kernel
theorem d_Sc_init_129 : decode b_Sc_init 129 = .ok (.aload_n 0, 1) := by decide +kernel
theorem d_Sc_init_130 : decode b_Sc_init 130 = .ok (.getfield 11, 3) := by decide +kernel
theorem d_Sc_init_133 : decode b_Sc_init 133 = .ok (.iload_n 1, 1) := by decide +kernel
theorem d_Sc_init_134 : decode b_Sc_init 134 = .ok (.iload_n 1, 1) := by decide +kernel
theorem d_Sc_init_135 : decode b_Sc_init 135 = .ok (.iastore, 1) := by decide +kernel
theorem d_Sc_init_136 : decode b_Sc_init 136 = .ok (.aload_n 0, 1) := by decide +kernel
theorem d_Sc_init_137 : decode b_Sc_init 137 = .ok (.getfield 15, 3) := by decide +kernel
theorem d_Sc_init_140 : decode b_Sc_init 140 = .ok (.iload_n 1, 1) := by decide +kernel
theorem d_Sc_init_141 : decode b_Sc_init 141 = .ok (.iconst (-1), 1) := by decide +kernel
theorem d_Sc_init_142 : decode b_Sc_init 142 = .ok (.iastore, 1) := by decide +kernel
theorem d_Sc_init_143 : decode b_Sc_init 143 = .ok (.iinc 1 1, 3) := by decide +kernel
theorem d_Sc_init_146 : decode b_Sc_init 146 = .ok (.goto (-23), 3) := by decide +kernel
theorem d_Sc_init_149 : decode b_Sc_init 149 = .ok (.aload_n 0, 1) := by decide +kernel
theorem d_Sc_init_150 : decode b_Sc_init 150 = .ok (.bipush 6, 2) := by decide +kernel
theorem d_Sc_init_152 : decode b_Sc_init 152 = .ok (.putfield 58, 3) := by decide +kernel
theorem d_Sc_init_155 : decode b_Sc_init 155 = .ok (.aload_n 0, 1) := by decide +kernel
theorem d_Sc_init_156 : decode b_Sc_init 156 = .ok (.bipush 6, 2) := by decide +kernel
theorem d_Sc_init_158 : decode b_Sc_init 158 = .ok (.putfield 62, 3) := by decide +kernel
theorem d_Sc_init_161 : decode b_Sc_init 161 = .ok (.return_, 1) := by decide +kernel
