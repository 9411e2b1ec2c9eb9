/-! names: the classes, their fields, their words -/
theorem mw_59 : Cond.laysFinal "RecordLake$Bytes" "RecordLake$Bytes" "row" "[B" ∈ gW := gw_of (List.mem_of_getElem? (i := 59) (by decide +kernel)) (by decide +kernel)
theorem mw_61 : Cond.lays "RecordLake$Bytes" "RecordLake$Bytes" "length" "I" ∈ gW := gw_of (List.mem_of_getElem? (i := 61) (by decide +kernel)) (by decide +kernel)
theorem mw_107 : Cond.laysFinal "RecordLake$Text" "RecordLake$Text" "kind" "[I" ∈ gW := gw_of (List.mem_of_getElem? (i := 107) (by decide +kernel)) (by decide +kernel)
theorem mw_109 : Cond.laysFinal "RecordLake$Text" "RecordLake$Text" "begin" "[I" ∈ gW := gw_of (List.mem_of_getElem? (i := 109) (by decide +kernel)) (by decide +kernel)
theorem mw_111 : Cond.laysFinal "RecordLake$Text" "RecordLake$Text" "inner" "[I" ∈ gW := gw_of (List.mem_of_getElem? (i := 111) (by decide +kernel)) (by decide +kernel)
theorem mw_113 : Cond.laysFinal "RecordLake$Text" "RecordLake$Text" "extent" "[I" ∈ gW := gw_of (List.mem_of_getElem? (i := 113) (by decide +kernel)) (by decide +kernel)
theorem mw_115 : Cond.laysFinal "RecordLake$Text" "RecordLake$Text" "next" "[I" ∈ gW := gw_of (List.mem_of_getElem? (i := 115) (by decide +kernel)) (by decide +kernel)
theorem mw_117 : Cond.laysFinal "RecordLake$Text" "RecordLake$Text" "number" "[J" ∈ gW := gw_of (List.mem_of_getElem? (i := 117) (by decide +kernel)) (by decide +kernel)
theorem mw_119 : Cond.laysFinal "RecordLake$Text" "RecordLake$Text" "told" "LRecordLake$Bytes;" ∈ gW := gw_of (List.mem_of_getElem? (i := 119) (by decide +kernel)) (by decide +kernel)
theorem mw_121 : Cond.lays "RecordLake$Text" "RecordLake$Text" "values" "I" ∈ gW := gw_of (List.mem_of_getElem? (i := 121) (by decide +kernel)) (by decide +kernel)
theorem mw_123 : Cond.lays "RecordLake$Text" "RecordLake$Text" "root" "I" ∈ gW := gw_of (List.mem_of_getElem? (i := 123) (by decide +kernel)) (by decide +kernel)
theorem mw_125 : Cond.lays "RecordLake$Text" "RecordLake$Text" "valueEnd" "I" ∈ gW := gw_of (List.mem_of_getElem? (i := 125) (by decide +kernel)) (by decide +kernel)
theorem mw_127 : Cond.lays "RecordLake$Text" "RecordLake$Text" "place" "I" ∈ gW := gw_of (List.mem_of_getElem? (i := 127) (by decide +kernel)) (by decide +kernel)
theorem mw_129 : Cond.lays "RecordLake$Text" "RecordLake$Text" "source" "[B" ∈ gW := gw_of (List.mem_of_getElem? (i := 129) (by decide +kernel)) (by decide +kernel)
theorem mw_131 : Cond.lays "RecordLake$Text" "RecordLake$Text" "from" "I" ∈ gW := gw_of (List.mem_of_getElem? (i := 131) (by decide +kernel)) (by decide +kernel)
theorem mw_133 : Cond.lays "RecordLake$Text" "RecordLake$Text" "length" "I" ∈ gW := gw_of (List.mem_of_getElem? (i := 133) (by decide +kernel)) (by decide +kernel)
theorem mw_135 : Cond.lays "RecordLake$Text" "RecordLake$Text" "at" "I" ∈ gW := gw_of (List.mem_of_getElem? (i := 135) (by decide +kernel)) (by decide +kernel)
theorem mw_210 : Cond.laysFinal "RecordLake$Schemas" "RecordLake$Schemas" "kind" "[I" ∈ gW := gw_of (List.mem_of_getElem? (i := 210) (by decide +kernel)) (by decide +kernel)
theorem mw_212 : Cond.laysFinal "RecordLake$Schemas" "RecordLake$Schemas" "name" "[I" ∈ gW := gw_of (List.mem_of_getElem? (i := 212) (by decide +kernel)) (by decide +kernel)
theorem mw_214 : Cond.laysFinal "RecordLake$Schemas" "RecordLake$Schemas" "part" "[I" ∈ gW := gw_of (List.mem_of_getElem? (i := 214) (by decide +kernel)) (by decide +kernel)
theorem mw_216 : Cond.laysFinal "RecordLake$Schemas" "RecordLake$Schemas" "parts" "[I" ∈ gW := gw_of (List.mem_of_getElem? (i := 216) (by decide +kernel)) (by decide +kernel)
theorem mw_218 : Cond.laysFinal "RecordLake$Schemas" "RecordLake$Schemas" "extra" "[I" ∈ gW := gw_of (List.mem_of_getElem? (i := 218) (by decide +kernel)) (by decide +kernel)
theorem mw_220 : Cond.laysFinal "RecordLake$Schemas" "RecordLake$Schemas" "partName" "[I" ∈ gW := gw_of (List.mem_of_getElem? (i := 220) (by decide +kernel)) (by decide +kernel)
theorem mw_222 : Cond.laysFinal "RecordLake$Schemas" "RecordLake$Schemas" "partSchema" "[I" ∈ gW := gw_of (List.mem_of_getElem? (i := 222) (by decide +kernel)) (by decide +kernel)
theorem mw_224 : Cond.laysFinal "RecordLake$Schemas" "RecordLake$Schemas" "partDefault" "[I" ∈ gW := gw_of (List.mem_of_getElem? (i := 224) (by decide +kernel)) (by decide +kernel)
theorem mw_226 : Cond.laysFinal "RecordLake$Schemas" "RecordLake$Schemas" "partDefaultBytes" "[I" ∈ gW := gw_of (List.mem_of_getElem? (i := 226) (by decide +kernel)) (by decide +kernel)
theorem mw_228 : Cond.laysFinal "RecordLake$Schemas" "RecordLake$Schemas" "pool" "LRecordLake$Bytes;" ∈ gW := gw_of (List.mem_of_getElem? (i := 228) (by decide +kernel)) (by decide +kernel)
theorem mw_230 : Cond.laysFinal "RecordLake$Schemas" "RecordLake$Schemas" "versions" "[I" ∈ gW := gw_of (List.mem_of_getElem? (i := 230) (by decide +kernel)) (by decide +kernel)
theorem mw_232 : Cond.lays "RecordLake$Schemas" "RecordLake$Schemas" "base" "I" ∈ gW := gw_of (List.mem_of_getElem? (i := 232) (by decide +kernel)) (by decide +kernel)
theorem mw_234 : Cond.laysFinal "RecordLake$Schemas" "RecordLake$Schemas" "roots" "[I" ∈ gW := gw_of (List.mem_of_getElem? (i := 234) (by decide +kernel)) (by decide +kernel)
theorem mw_236 : Cond.laysFinal "RecordLake$Schemas" "RecordLake$Schemas" "bases" "[I" ∈ gW := gw_of (List.mem_of_getElem? (i := 236) (by decide +kernel)) (by decide +kernel)
theorem mw_238 : Cond.lays "RecordLake$Schemas" "RecordLake$Schemas" "schemasUsed" "I" ∈ gW := gw_of (List.mem_of_getElem? (i := 238) (by decide +kernel)) (by decide +kernel)
theorem mw_240 : Cond.lays "RecordLake$Schemas" "RecordLake$Schemas" "partsUsed" "I" ∈ gW := gw_of (List.mem_of_getElem? (i := 240) (by decide +kernel)) (by decide +kernel)
theorem mw_242 : Cond.lays "RecordLake$Schemas" "RecordLake$Schemas" "basePart" "I" ∈ gW := gw_of (List.mem_of_getElem? (i := 242) (by decide +kernel)) (by decide +kernel)
theorem mw_244 : Cond.lays "RecordLake$Schemas" "RecordLake$Schemas" "basePool" "I" ∈ gW := gw_of (List.mem_of_getElem? (i := 244) (by decide +kernel)) (by decide +kernel)
theorem mw_264 : Cond.laysFinal "RecordLake$Defaults" "RecordLake$Defaults" "text" "LRecordLake$Text;" ∈ gW := gw_of (List.mem_of_getElem? (i := 264) (by decide +kernel)) (by decide +kernel)
theorem mw_266 : Cond.laysFinal "RecordLake$Defaults" "RecordLake$Defaults" "schemas" "LRecordLake$Schemas;" ∈ gW := gw_of (List.mem_of_getElem? (i := 266) (by decide +kernel)) (by decide +kernel)
theorem mw_268 : Cond.laysFinal "RecordLake$Defaults" "RecordLake$Defaults" "waitingValue" "[I" ∈ gW := gw_of (List.mem_of_getElem? (i := 268) (by decide +kernel)) (by decide +kernel)
theorem mw_270 : Cond.laysFinal "RecordLake$Defaults" "RecordLake$Defaults" "waitingPart" "[I" ∈ gW := gw_of (List.mem_of_getElem? (i := 270) (by decide +kernel)) (by decide +kernel)
theorem mw_272 : Cond.lays "RecordLake$Defaults" "RecordLake$Defaults" "waiting" "I" ∈ gW := gw_of (List.mem_of_getElem? (i := 272) (by decide +kernel)) (by decide +kernel)
theorem mw_283 : Cond.lays "RecordLake$SchemaReader" "RecordLake$SchemaReader" "fault" "I" ∈ gW := gw_of (List.mem_of_getElem? (i := 283) (by decide +kernel)) (by decide +kernel)
theorem mw_285 : Cond.lays "RecordLake$SchemaReader" "RecordLake$SchemaReader" "place" "I" ∈ gW := gw_of (List.mem_of_getElem? (i := 285) (by decide +kernel)) (by decide +kernel)
theorem mw_287 : Cond.laysFinal "RecordLake$SchemaReader" "RecordLake$SchemaReader" "text" "LRecordLake$Text;" ∈ gW := gw_of (List.mem_of_getElem? (i := 287) (by decide +kernel)) (by decide +kernel)
theorem mw_289 : Cond.laysFinal "RecordLake$SchemaReader" "RecordLake$SchemaReader" "schemas" "LRecordLake$Schemas;" ∈ gW := gw_of (List.mem_of_getElem? (i := 289) (by decide +kernel)) (by decide +kernel)
theorem mw_291 : Cond.laysFinal "RecordLake$SchemaReader" "RecordLake$SchemaReader" "defaults" "LRecordLake$Defaults;" ∈ gW := gw_of (List.mem_of_getElem? (i := 291) (by decide +kernel)) (by decide +kernel)
theorem mw_293 : Cond.lays "RecordLake$SchemaReader" "RecordLake$SchemaReader" "lookedAt" "I" ∈ gW := gw_of (List.mem_of_getElem? (i := 293) (by decide +kernel)) (by decide +kernel)
theorem mw_309 : Cond.laysFinal "RecordLake$PlainForm" "RecordLake$PlainForm" "schemas" "LRecordLake$Schemas;" ∈ gW := gw_of (List.mem_of_getElem? (i := 309) (by decide +kernel)) (by decide +kernel)
theorem mw_311 : Cond.laysFinal "RecordLake$PlainForm" "RecordLake$PlainForm" "one" "LRecordLake$Bytes;" ∈ gW := gw_of (List.mem_of_getElem? (i := 311) (by decide +kernel)) (by decide +kernel)
theorem mw_313 : Cond.laysFinal "RecordLake$PlainForm" "RecordLake$PlainForm" "another" "LRecordLake$Bytes;" ∈ gW := gw_of (List.mem_of_getElem? (i := 313) (by decide +kernel)) (by decide +kernel)
theorem mw_315 : Cond.lays "RecordLake$PlainForm" "RecordLake$PlainForm" "form" "LRecordLake$Bytes;" ∈ gW := gw_of (List.mem_of_getElem? (i := 315) (by decide +kernel)) (by decide +kernel)
theorem mw_317 : Cond.lays "RecordLake$PlainForm" "RecordLake$PlainForm" "latest" "I" ∈ gW := gw_of (List.mem_of_getElem? (i := 317) (by decide +kernel)) (by decide +kernel)
theorem mw_342 : Cond.laysFinal "RecordLake$Looker" "RecordLake$Looker" "normal" "LRecordLake$Bytes;" ∈ gW := gw_of (List.mem_of_getElem? (i := 342) (by decide +kernel)) (by decide +kernel)
theorem mw_344 : Cond.lays "RecordLake$Looker" "RecordLake$Looker" "at" "I" ∈ gW := gw_of (List.mem_of_getElem? (i := 344) (by decide +kernel)) (by decide +kernel)
theorem mw_346 : Cond.lays "RecordLake$Looker" "RecordLake$Looker" "fault" "I" ∈ gW := gw_of (List.mem_of_getElem? (i := 346) (by decide +kernel)) (by decide +kernel)
theorem mw_348 : Cond.lays "RecordLake$Looker" "RecordLake$Looker" "place" "I" ∈ gW := gw_of (List.mem_of_getElem? (i := 348) (by decide +kernel)) (by decide +kernel)
theorem mw_350 : Cond.lays "RecordLake$Looker" "RecordLake$Looker" "value" "J" ∈ gW := gw_of (List.mem_of_getElem? (i := 350) (by decide +kernel)) (by decide +kernel)
theorem mw_352 : Cond.laysFinal "RecordLake$Looker" "RecordLake$Looker" "schemas" "LRecordLake$Schemas;" ∈ gW := gw_of (List.mem_of_getElem? (i := 352) (by decide +kernel)) (by decide +kernel)
theorem mw_354 : Cond.lays "RecordLake$Looker" "RecordLake$Looker" "source" "[B" ∈ gW := gw_of (List.mem_of_getElem? (i := 354) (by decide +kernel)) (by decide +kernel)
theorem mw_356 : Cond.lays "RecordLake$Looker" "RecordLake$Looker" "limit" "I" ∈ gW := gw_of (List.mem_of_getElem? (i := 356) (by decide +kernel)) (by decide +kernel)
theorem mw_358 : Cond.lays "RecordLake$Looker" "RecordLake$Looker" "data" "I" ∈ gW := gw_of (List.mem_of_getElem? (i := 358) (by decide +kernel)) (by decide +kernel)
theorem mw_360 : Cond.lays "RecordLake$Looker" "RecordLake$Looker" "items" "I" ∈ gW := gw_of (List.mem_of_getElem? (i := 360) (by decide +kernel)) (by decide +kernel)
theorem mw_376 : Cond.laysFinal "RecordLake$Matching" "RecordLake$Matching" "schemas" "LRecordLake$Schemas;" ∈ gW := gw_of (List.mem_of_getElem? (i := 376) (by decide +kernel)) (by decide +kernel)
theorem mw_378 : Cond.laysFinal "RecordLake$Matching" "RecordLake$Matching" "askedIn" "[I" ∈ gW := gw_of (List.mem_of_getElem? (i := 378) (by decide +kernel)) (by decide +kernel)
theorem mw_380 : Cond.laysFinal "RecordLake$Matching" "RecordLake$Matching" "pairs" "[I" ∈ gW := gw_of (List.mem_of_getElem? (i := 380) (by decide +kernel)) (by decide +kernel)
theorem mw_382 : Cond.lays "RecordLake$Matching" "RecordLake$Matching" "asked" "I" ∈ gW := gw_of (List.mem_of_getElem? (i := 382) (by decide +kernel)) (by decide +kernel)
theorem mw_384 : Cond.lays "RecordLake$Matching" "RecordLake$Matching" "question" "I" ∈ gW := gw_of (List.mem_of_getElem? (i := 384) (by decide +kernel)) (by decide +kernel)
theorem mw_386 : Cond.lays "RecordLake$Matching" "RecordLake$Matching" "writerBase" "I" ∈ gW := gw_of (List.mem_of_getElem? (i := 386) (by decide +kernel)) (by decide +kernel)
theorem mw_388 : Cond.lays "RecordLake$Matching" "RecordLake$Matching" "readerBase" "I" ∈ gW := gw_of (List.mem_of_getElem? (i := 388) (by decide +kernel)) (by decide +kernel)
theorem mw_408 : Cond.lays "RecordLake$Teller" "RecordLake$Teller" "at" "I" ∈ gW := gw_of (List.mem_of_getElem? (i := 408) (by decide +kernel)) (by decide +kernel)
theorem mw_410 : Cond.lays "RecordLake$Teller" "RecordLake$Teller" "limit" "I" ∈ gW := gw_of (List.mem_of_getElem? (i := 410) (by decide +kernel)) (by decide +kernel)
theorem mw_412 : Cond.laysFinal "RecordLake$Teller" "RecordLake$Teller" "schemas" "LRecordLake$Schemas;" ∈ gW := gw_of (List.mem_of_getElem? (i := 412) (by decide +kernel)) (by decide +kernel)
theorem mw_414 : Cond.laysFinal "RecordLake$Teller" "RecordLake$Teller" "matching" "LRecordLake$Matching;" ∈ gW := gw_of (List.mem_of_getElem? (i := 414) (by decide +kernel)) (by decide +kernel)
theorem mw_416 : Cond.laysFinal "RecordLake$Teller" "RecordLake$Teller" "fieldBegins" "[I" ∈ gW := gw_of (List.mem_of_getElem? (i := 416) (by decide +kernel)) (by decide +kernel)
theorem mw_418 : Cond.lays "RecordLake$Teller" "RecordLake$Teller" "source" "[B" ∈ gW := gw_of (List.mem_of_getElem? (i := 418) (by decide +kernel)) (by decide +kernel)
theorem mw_420 : Cond.lays "RecordLake$Teller" "RecordLake$Teller" "sink" "LRecordLake$Bytes;" ∈ gW := gw_of (List.mem_of_getElem? (i := 420) (by decide +kernel)) (by decide +kernel)
theorem mw_435 : Cond.laysFinal "RecordLake$Disk" "RecordLake$Disk" "bytes" "[B" ∈ gW := gw_of (List.mem_of_getElem? (i := 435) (by decide +kernel)) (by decide +kernel)
theorem mw_437 : Cond.lays "RecordLake$Disk" "RecordLake$Disk" "untilLoss" "I" ∈ gW := gw_of (List.mem_of_getElem? (i := 437) (by decide +kernel)) (by decide +kernel)
theorem mw_463 : Cond.laysFinal "RecordLake$FileList" "RecordLake$FileList" "owner" "[I" ∈ gW := gw_of (List.mem_of_getElem? (i := 463) (by decide +kernel)) (by decide +kernel)
theorem mw_465 : Cond.laysFinal "RecordLake$FileList" "RecordLake$FileList" "version" "[I" ∈ gW := gw_of (List.mem_of_getElem? (i := 465) (by decide +kernel)) (by decide +kernel)
theorem mw_467 : Cond.laysFinal "RecordLake$FileList" "RecordLake$FileList" "first" "[I" ∈ gW := gw_of (List.mem_of_getElem? (i := 467) (by decide +kernel)) (by decide +kernel)
theorem mw_469 : Cond.laysFinal "RecordLake$FileList" "RecordLake$FileList" "wants" "[I" ∈ gW := gw_of (List.mem_of_getElem? (i := 469) (by decide +kernel)) (by decide +kernel)
theorem mw_471 : Cond.laysFinal "RecordLake$FileList" "RecordLake$FileList" "rows" "[I" ∈ gW := gw_of (List.mem_of_getElem? (i := 471) (by decide +kernel)) (by decide +kernel)
theorem mw_473 : Cond.lays "RecordLake$FileList" "RecordLake$FileList" "length" "I" ∈ gW := gw_of (List.mem_of_getElem? (i := 473) (by decide +kernel)) (by decide +kernel)
theorem mw_475 : Cond.lays "RecordLake$FileList" "RecordLake$FileList" "turn" "I" ∈ gW := gw_of (List.mem_of_getElem? (i := 475) (by decide +kernel)) (by decide +kernel)
theorem mw_477 : Cond.laysFinal "RecordLake$FileList" "RecordLake$FileList" "block" "LRecordLake$Bytes;" ∈ gW := gw_of (List.mem_of_getElem? (i := 477) (by decide +kernel)) (by decide +kernel)
theorem mw_479 : Cond.laysFinal "RecordLake$FileList" "RecordLake$FileList" "isUsed" "[Z" ∈ gW := gw_of (List.mem_of_getElem? (i := 479) (by decide +kernel)) (by decide +kernel)
theorem mw_500 : Cond.laysFinal "RecordLake" "RecordLake" "tape" "LRecordLake$Bytes;" ∈ gW := gw_of (List.mem_of_getElem? (i := 500) (by decide +kernel)) (by decide +kernel)
theorem mw_502 : Cond.laysFinal "RecordLake" "RecordLake" "plain" "LRecordLake$Bytes;" ∈ gW := gw_of (List.mem_of_getElem? (i := 502) (by decide +kernel)) (by decide +kernel)
theorem mw_504 : Cond.laysFinal "RecordLake" "RecordLake" "out" "LRecordLake$Bytes;" ∈ gW := gw_of (List.mem_of_getElem? (i := 504) (by decide +kernel)) (by decide +kernel)
theorem mw_506 : Cond.laysFinal "RecordLake" "RecordLake" "toldRow" "LRecordLake$Bytes;" ∈ gW := gw_of (List.mem_of_getElem? (i := 506) (by decide +kernel)) (by decide +kernel)
theorem mw_508 : Cond.laysFinal "RecordLake" "RecordLake" "gathered" "LRecordLake$Bytes;" ∈ gW := gw_of (List.mem_of_getElem? (i := 508) (by decide +kernel)) (by decide +kernel)
theorem mw_510 : Cond.laysFinal "RecordLake" "RecordLake" "content" "LRecordLake$Bytes;" ∈ gW := gw_of (List.mem_of_getElem? (i := 510) (by decide +kernel)) (by decide +kernel)
theorem mw_512 : Cond.laysFinal "RecordLake" "RecordLake" "text" "LRecordLake$Text;" ∈ gW := gw_of (List.mem_of_getElem? (i := 512) (by decide +kernel)) (by decide +kernel)
theorem mw_514 : Cond.laysFinal "RecordLake" "RecordLake" "schemas" "LRecordLake$Schemas;" ∈ gW := gw_of (List.mem_of_getElem? (i := 514) (by decide +kernel)) (by decide +kernel)
theorem mw_516 : Cond.laysFinal "RecordLake" "RecordLake" "reader" "LRecordLake$SchemaReader;" ∈ gW := gw_of (List.mem_of_getElem? (i := 516) (by decide +kernel)) (by decide +kernel)
theorem mw_518 : Cond.laysFinal "RecordLake" "RecordLake" "forms" "LRecordLake$PlainForm;" ∈ gW := gw_of (List.mem_of_getElem? (i := 518) (by decide +kernel)) (by decide +kernel)
theorem mw_520 : Cond.laysFinal "RecordLake" "RecordLake" "looker" "LRecordLake$Looker;" ∈ gW := gw_of (List.mem_of_getElem? (i := 520) (by decide +kernel)) (by decide +kernel)
theorem mw_522 : Cond.laysFinal "RecordLake" "RecordLake" "matching" "LRecordLake$Matching;" ∈ gW := gw_of (List.mem_of_getElem? (i := 522) (by decide +kernel)) (by decide +kernel)
theorem mw_524 : Cond.laysFinal "RecordLake" "RecordLake" "teller" "LRecordLake$Teller;" ∈ gW := gw_of (List.mem_of_getElem? (i := 524) (by decide +kernel)) (by decide +kernel)
theorem mw_526 : Cond.laysFinal "RecordLake" "RecordLake" "disk" "LRecordLake$Disk;" ∈ gW := gw_of (List.mem_of_getElem? (i := 526) (by decide +kernel)) (by decide +kernel)
theorem mw_528 : Cond.laysFinal "RecordLake" "RecordLake" "list" "LRecordLake$FileList;" ∈ gW := gw_of (List.mem_of_getElem? (i := 528) (by decide +kernel)) (by decide +kernel)
theorem mw_530 : Cond.lays "RecordLake" "RecordLake" "faultPlace" "I" ∈ gW := gw_of (List.mem_of_getElem? (i := 530) (by decide +kernel)) (by decide +kernel)
theorem mw_532 : Cond.lays "RecordLake" "RecordLake" "down" "Z" ∈ gW := gw_of (List.mem_of_getElem? (i := 532) (by decide +kernel)) (by decide +kernel)
theorem mw_1644 : Cond.laysFinal "RecordLakeModel$Text" "RecordLakeModel$Text" "bytes" "[B" ∈ gW := gw_of (List.mem_of_getElem? (i := 1644) (by decide +kernel)) (by decide +kernel)
theorem mw_1646 : Cond.lays "RecordLakeModel$Text" "RecordLakeModel$Text" "length" "I" ∈ gW := gw_of (List.mem_of_getElem? (i := 1646) (by decide +kernel)) (by decide +kernel)
theorem mw_1648 : Cond.lays "RecordLakeModel$Text" "RecordLakeModel$Text" "at" "I" ∈ gW := gw_of (List.mem_of_getElem? (i := 1648) (by decide +kernel)) (by decide +kernel)
theorem mw_1650 : Cond.lays "RecordLakeModel$Text" "RecordLakeModel$Text" "deep" "I" ∈ gW := gw_of (List.mem_of_getElem? (i := 1650) (by decide +kernel)) (by decide +kernel)
theorem mw_1652 : Cond.lays "RecordLakeModel$Text" "RecordLakeModel$Text" "fault" "I" ∈ gW := gw_of (List.mem_of_getElem? (i := 1652) (by decide +kernel)) (by decide +kernel)
theorem mw_1654 : Cond.lays "RecordLakeModel$Text" "RecordLakeModel$Text" "place" "I" ∈ gW := gw_of (List.mem_of_getElem? (i := 1654) (by decide +kernel)) (by decide +kernel)
theorem mw_1656 : Cond.lays "RecordLakeModel$Text" "RecordLakeModel$Text" "end" "I" ∈ gW := gw_of (List.mem_of_getElem? (i := 1656) (by decide +kernel)) (by decide +kernel)
theorem mw_1658 : Cond.lays "RecordLakeModel$Text" "RecordLakeModel$Text" "nodes" "I" ∈ gW := gw_of (List.mem_of_getElem? (i := 1658) (by decide +kernel)) (by decide +kernel)
theorem mw_1660 : Cond.laysFinal "RecordLakeModel$Text" "RecordLakeModel$Text" "kinds" "[I" ∈ gW := gw_of (List.mem_of_getElem? (i := 1660) (by decide +kernel)) (by decide +kernel)
theorem mw_1662 : Cond.laysFinal "RecordLakeModel$Text" "RecordLakeModel$Text" "firsts" "[I" ∈ gW := gw_of (List.mem_of_getElem? (i := 1662) (by decide +kernel)) (by decide +kernel)
theorem mw_1664 : Cond.laysFinal "RecordLakeModel$Text" "RecordLakeModel$Text" "numbers" "[J" ∈ gW := gw_of (List.mem_of_getElem? (i := 1664) (by decide +kernel)) (by decide +kernel)
theorem mw_1666 : Cond.laysFinal "RecordLakeModel$Text" "RecordLakeModel$Text" "sizes" "[I" ∈ gW := gw_of (List.mem_of_getElem? (i := 1666) (by decide +kernel)) (by decide +kernel)
theorem mw_1668 : Cond.laysFinal "RecordLakeModel$Text" "RecordLakeModel$Text" "inner" "[I" ∈ gW := gw_of (List.mem_of_getElem? (i := 1668) (by decide +kernel)) (by decide +kernel)
theorem mw_1670 : Cond.laysFinal "RecordLakeModel$Text" "RecordLakeModel$Text" "nexts" "[I" ∈ gW := gw_of (List.mem_of_getElem? (i := 1670) (by decide +kernel)) (by decide +kernel)
theorem mw_1672 : Cond.laysFinal "RecordLakeModel$Text" "RecordLakeModel$Text" "letters" "[B" ∈ gW := gw_of (List.mem_of_getElem? (i := 1672) (by decide +kernel)) (by decide +kernel)
theorem mw_1674 : Cond.lays "RecordLakeModel$Text" "RecordLakeModel$Text" "lettered" "I" ∈ gW := gw_of (List.mem_of_getElem? (i := 1674) (by decide +kernel)) (by decide +kernel)
theorem mw_1676 : Cond.lays "RecordLakeModel$Text" "RecordLakeModel$Text" "shapes" "I" ∈ gW := gw_of (List.mem_of_getElem? (i := 1676) (by decide +kernel)) (by decide +kernel)
theorem mw_1678 : Cond.lays "RecordLakeModel$Text" "RecordLakeModel$Text" "looked" "I" ∈ gW := gw_of (List.mem_of_getElem? (i := 1678) (by decide +kernel)) (by decide +kernel)
theorem mw_1680 : Cond.laysFinal "RecordLakeModel$Text" "RecordLakeModel$Text" "sorts" "[I" ∈ gW := gw_of (List.mem_of_getElem? (i := 1680) (by decide +kernel)) (by decide +kernel)
theorem mw_1682 : Cond.laysFinal "RecordLakeModel$Text" "RecordLakeModel$Text" "names" "[I" ∈ gW := gw_of (List.mem_of_getElem? (i := 1682) (by decide +kernel)) (by decide +kernel)
theorem mw_1684 : Cond.laysFinal "RecordLakeModel$Text" "RecordLakeModel$Text" "wide" "[I" ∈ gW := gw_of (List.mem_of_getElem? (i := 1684) (by decide +kernel)) (by decide +kernel)
theorem mw_1686 : Cond.laysFinal "RecordLakeModel$Text" "RecordLakeModel$Text" "kids" "[I" ∈ gW := gw_of (List.mem_of_getElem? (i := 1686) (by decide +kernel)) (by decide +kernel)
theorem mw_1688 : Cond.laysFinal "RecordLakeModel$Text" "RecordLakeModel$Text" "many" "[I" ∈ gW := gw_of (List.mem_of_getElem? (i := 1688) (by decide +kernel)) (by decide +kernel)
theorem mw_1690 : Cond.laysFinal "RecordLakeModel$Text" "RecordLakeModel$Text" "fallback" "[I" ∈ gW := gw_of (List.mem_of_getElem? (i := 1690) (by decide +kernel)) (by decide +kernel)
theorem mw_1692 : Cond.lays "RecordLakeModel$Text" "RecordLakeModel$Text" "kidCount" "I" ∈ gW := gw_of (List.mem_of_getElem? (i := 1692) (by decide +kernel)) (by decide +kernel)
theorem mw_1694 : Cond.laysFinal "RecordLakeModel$Text" "RecordLakeModel$Text" "kidShape" "[I" ∈ gW := gw_of (List.mem_of_getElem? (i := 1694) (by decide +kernel)) (by decide +kernel)
theorem mw_1696 : Cond.laysFinal "RecordLakeModel$Text" "RecordLakeModel$Text" "kidName" "[I" ∈ gW := gw_of (List.mem_of_getElem? (i := 1696) (by decide +kernel)) (by decide +kernel)
theorem mw_1698 : Cond.laysFinal "RecordLakeModel$Text" "RecordLakeModel$Text" "kidDefault" "[I" ∈ gW := gw_of (List.mem_of_getElem? (i := 1698) (by decide +kernel)) (by decide +kernel)
theorem mw_1700 : Cond.laysFinal "RecordLakeModel$Text" "RecordLakeModel$Text" "kidNext" "[I" ∈ gW := gw_of (List.mem_of_getElem? (i := 1700) (by decide +kernel)) (by decide +kernel)
theorem mw_1702 : Cond.lays "RecordLakeModel$Text" "RecordLakeModel$Text" "done" "I" ∈ gW := gw_of (List.mem_of_getElem? (i := 1702) (by decide +kernel)) (by decide +kernel)
theorem mw_1704 : Cond.laysFinal "RecordLakeModel$Text" "RecordLakeModel$Text" "finished" "[I" ∈ gW := gw_of (List.mem_of_getElem? (i := 1704) (by decide +kernel)) (by decide +kernel)
theorem mw_1706 : Cond.lays "RecordLakeModel$Text" "RecordLakeModel$Text" "root" "I" ∈ gW := gw_of (List.mem_of_getElem? (i := 1706) (by decide +kernel)) (by decide +kernel)
theorem mw_1708 : Cond.laysFinal "RecordLakeModel$Text" "RecordLakeModel$Text" "plain" "[B" ∈ gW := gw_of (List.mem_of_getElem? (i := 1708) (by decide +kernel)) (by decide +kernel)
theorem mw_1710 : Cond.lays "RecordLakeModel$Text" "RecordLakeModel$Text" "plainSize" "I" ∈ gW := gw_of (List.mem_of_getElem? (i := 1710) (by decide +kernel)) (by decide +kernel)
theorem mw_1712 : Cond.laysFinal "RecordLakeModel$Text" "RecordLakeModel$Text" "told" "[Z" ∈ gW := gw_of (List.mem_of_getElem? (i := 1712) (by decide +kernel)) (by decide +kernel)
theorem mw_1751 : Cond.lays "RecordLakeModel" "RecordLakeModel" "thrown" "I" ∈ gW := gw_of (List.mem_of_getElem? (i := 1751) (by decide +kernel)) (by decide +kernel)
theorem mw_1753 : Cond.laysFinal "RecordLakeModel" "RecordLakeModel" "tape" "[B" ∈ gW := gw_of (List.mem_of_getElem? (i := 1753) (by decide +kernel)) (by decide +kernel)
theorem mw_1755 : Cond.lays "RecordLakeModel" "RecordLakeModel" "taped" "I" ∈ gW := gw_of (List.mem_of_getElem? (i := 1755) (by decide +kernel)) (by decide +kernel)
theorem mw_1757 : Cond.lays "RecordLakeModel" "RecordLakeModel" "place" "I" ∈ gW := gw_of (List.mem_of_getElem? (i := 1757) (by decide +kernel)) (by decide +kernel)
theorem mw_1759 : Cond.laysFinal "RecordLakeModel" "RecordLakeModel" "typed" "LRecordLakeModel$Text;" ∈ gW := gw_of (List.mem_of_getElem? (i := 1759) (by decide +kernel)) (by decide +kernel)
theorem mw_1761 : Cond.laysFinal "RecordLakeModel" "RecordLakeModel" "left" "LRecordLakeModel$Text;" ∈ gW := gw_of (List.mem_of_getElem? (i := 1761) (by decide +kernel)) (by decide +kernel)
theorem mw_1763 : Cond.laysFinal "RecordLakeModel" "RecordLakeModel" "right" "LRecordLakeModel$Text;" ∈ gW := gw_of (List.mem_of_getElem? (i := 1763) (by decide +kernel)) (by decide +kernel)
theorem mw_1765 : Cond.laysFinal "RecordLakeModel" "RecordLakeModel" "plain" "[B" ∈ gW := gw_of (List.mem_of_getElem? (i := 1765) (by decide +kernel)) (by decide +kernel)
theorem mw_1767 : Cond.lays "RecordLakeModel" "RecordLakeModel" "plainSize" "I" ∈ gW := gw_of (List.mem_of_getElem? (i := 1767) (by decide +kernel)) (by decide +kernel)
theorem mw_1769 : Cond.laysFinal "RecordLakeModel" "RecordLakeModel" "out" "[B" ∈ gW := gw_of (List.mem_of_getElem? (i := 1769) (by decide +kernel)) (by decide +kernel)
theorem mw_1771 : Cond.lays "RecordLakeModel" "RecordLakeModel" "outSize" "I" ∈ gW := gw_of (List.mem_of_getElem? (i := 1771) (by decide +kernel)) (by decide +kernel)
theorem mw_1773 : Cond.lays "RecordLakeModel" "RecordLakeModel" "down" "Z" ∈ gW := gw_of (List.mem_of_getElem? (i := 1773) (by decide +kernel)) (by decide +kernel)
theorem mw_1775 : Cond.lays "RecordLakeModel" "RecordLakeModel" "power" "I" ∈ gW := gw_of (List.mem_of_getElem? (i := 1775) (by decide +kernel)) (by decide +kernel)
theorem mw_1777 : Cond.lays "RecordLakeModel" "RecordLakeModel" "files" "I" ∈ gW := gw_of (List.mem_of_getElem? (i := 1777) (by decide +kernel)) (by decide +kernel)
theorem mw_1779 : Cond.laysFinal "RecordLakeModel" "RecordLakeModel" "subjectOf" "[I" ∈ gW := gw_of (List.mem_of_getElem? (i := 1779) (by decide +kernel)) (by decide +kernel)
theorem mw_1781 : Cond.laysFinal "RecordLakeModel" "RecordLakeModel" "versionOf" "[I" ∈ gW := gw_of (List.mem_of_getElem? (i := 1781) (by decide +kernel)) (by decide +kernel)
theorem mw_1783 : Cond.laysFinal "RecordLakeModel" "RecordLakeModel" "blockOf" "[I" ∈ gW := gw_of (List.mem_of_getElem? (i := 1783) (by decide +kernel)) (by decide +kernel)
theorem mw_1785 : Cond.laysFinal "RecordLakeModel" "RecordLakeModel" "wants" "[I" ∈ gW := gw_of (List.mem_of_getElem? (i := 1785) (by decide +kernel)) (by decide +kernel)
theorem mw_1787 : Cond.laysFinal "RecordLakeModel" "RecordLakeModel" "rowsOf" "[I" ∈ gW := gw_of (List.mem_of_getElem? (i := 1787) (by decide +kernel)) (by decide +kernel)
theorem mw_1789 : Cond.laysFinal "RecordLakeModel" "RecordLakeModel" "sizeOf" "[I" ∈ gW := gw_of (List.mem_of_getElem? (i := 1789) (by decide +kernel)) (by decide +kernel)
theorem mw_1791 : Cond.laysFinal "RecordLakeModel" "RecordLakeModel" "disk" "[B" ∈ gW := gw_of (List.mem_of_getElem? (i := 1791) (by decide +kernel)) (by decide +kernel)
theorem mw_1793 : Cond.laysFinal "RecordLakeModel" "RecordLakeModel" "made" "[B" ∈ gW := gw_of (List.mem_of_getElem? (i := 1793) (by decide +kernel)) (by decide +kernel)
theorem mw_1795 : Cond.lays "RecordLakeModel" "RecordLakeModel" "madeSize" "I" ∈ gW := gw_of (List.mem_of_getElem? (i := 1795) (by decide +kernel)) (by decide +kernel)
theorem mw_1797 : Cond.lays "RecordLakeModel" "RecordLakeModel" "at" "I" ∈ gW := gw_of (List.mem_of_getElem? (i := 1797) (by decide +kernel)) (by decide +kernel)
theorem mw_1799 : Cond.lays "RecordLakeModel" "RecordLakeModel" "fault" "I" ∈ gW := gw_of (List.mem_of_getElem? (i := 1799) (by decide +kernel)) (by decide +kernel)
theorem mw_1801 : Cond.lays "RecordLakeModel" "RecordLakeModel" "where" "I" ∈ gW := gw_of (List.mem_of_getElem? (i := 1801) (by decide +kernel)) (by decide +kernel)
theorem mw_1803 : Cond.lays "RecordLakeModel" "RecordLakeModel" "items" "I" ∈ gW := gw_of (List.mem_of_getElem? (i := 1803) (by decide +kernel)) (by decide +kernel)
theorem mw_1805 : Cond.lays "RecordLakeModel" "RecordLakeModel" "data" "I" ∈ gW := gw_of (List.mem_of_getElem? (i := 1805) (by decide +kernel)) (by decide +kernel)
theorem mw_1807 : Cond.laysFinal "RecordLakeModel" "RecordLakeModel" "asked" "[Z" ∈ gW := gw_of (List.mem_of_getElem? (i := 1807) (by decide +kernel)) (by decide +kernel)
theorem mw_1809 : Cond.laysFinal "RecordLakeModel" "RecordLakeModel" "pairs" "[I" ∈ gW := gw_of (List.mem_of_getElem? (i := 1809) (by decide +kernel)) (by decide +kernel)
theorem mw_1811 : Cond.lays "RecordLakeModel" "RecordLakeModel" "many" "I" ∈ gW := gw_of (List.mem_of_getElem? (i := 1811) (by decide +kernel)) (by decide +kernel)
theorem mw_1813 : Cond.lays "RecordLakeModel" "RecordLakeModel" "from" "I" ∈ gW := gw_of (List.mem_of_getElem? (i := 1813) (by decide +kernel)) (by decide +kernel)
theorem mw_1815 : Cond.lays "RecordLakeModel" "RecordLakeModel" "stop" "I" ∈ gW := gw_of (List.mem_of_getElem? (i := 1815) (by decide +kernel)) (by decide +kernel)
theorem mw_1817 : Cond.laysFinal "RecordLakeModel" "RecordLakeModel" "all" "[B" ∈ gW := gw_of (List.mem_of_getElem? (i := 1817) (by decide +kernel)) (by decide +kernel)
theorem mw_1819 : Cond.laysFinal "RecordLakeModel" "RecordLakeModel" "away" "[B" ∈ gW := gw_of (List.mem_of_getElem? (i := 1819) (by decide +kernel)) (by decide +kernel)
abbrev R_By : String := "RecordLake$Bytes"
def F_By : u_T := fun k => match k with
  | 0 => ("RecordLake$Bytes", "row", "[B", true)
  | _ => ("RecordLake$Bytes", "length", "I", false)
def t_By : Nat → FieldType := fun k => match k with
  | 0 => .array .byte
  | _ => .int
theorem n_By : ∀ a, a < 2 → ∀ b, b < 2 → a ≠ b → (F_By a).2.1 ≠ (F_By b).2.1 := by decide +kernel
theorem t_By_ok : ∀ k, k < 2 → parseFieldDescriptor (F_By k).2.2.1 = some (t_By k) := by decide +kernel
theorem i_By : ∀ w ∈ u_ws R_By F_By 2, w ∈ gW := by
  intro w hw
  obtain ⟨k, hk, rfl⟩ := List.mem_map.mp hw
  have hk := List.mem_range.mp hk
  match k, hk with
  | 0, _ => exact mw_59
  | 1, _ => exact mw_61
abbrev R_Tx : String := "RecordLake$Text"
def F_Tx : u_T := fun k => match k with
  | 0 => ("RecordLake$Text", "kind", "[I", true)
  | 1 => ("RecordLake$Text", "begin", "[I", true)
  | 2 => ("RecordLake$Text", "inner", "[I", true)
  | 3 => ("RecordLake$Text", "extent", "[I", true)
  | 4 => ("RecordLake$Text", "next", "[I", true)
  | 5 => ("RecordLake$Text", "number", "[J", true)
  | 6 => ("RecordLake$Text", "told", "LRecordLake$Bytes;", true)
  | 7 => ("RecordLake$Text", "values", "I", false)
  | 8 => ("RecordLake$Text", "root", "I", false)
  | 9 => ("RecordLake$Text", "valueEnd", "I", false)
  | 10 => ("RecordLake$Text", "place", "I", false)
  | 11 => ("RecordLake$Text", "source", "[B", false)
  | 12 => ("RecordLake$Text", "from", "I", false)
  | 13 => ("RecordLake$Text", "length", "I", false)
  | _ => ("RecordLake$Text", "at", "I", false)
def t_Tx : Nat → FieldType := fun k => match k with
  | 0 => .array .int
  | 1 => .array .int
  | 2 => .array .int
  | 3 => .array .int
  | 4 => .array .int
  | 5 => .array .long
  | 6 => .object "RecordLake$Bytes"
  | 7 => .int
  | 8 => .int
  | 9 => .int
  | 10 => .int
  | 11 => .array .byte
  | 12 => .int
  | 13 => .int
  | _ => .int
theorem n_Tx : ∀ a, a < 15 → ∀ b, b < 15 → a ≠ b → (F_Tx a).2.1 ≠ (F_Tx b).2.1 := by decide +kernel
theorem t_Tx_ok : ∀ k, k < 15 → parseFieldDescriptor (F_Tx k).2.2.1 = some (t_Tx k) := by decide +kernel
theorem i_Tx : ∀ w ∈ u_ws R_Tx F_Tx 15, w ∈ gW := by
  intro w hw
  obtain ⟨k, hk, rfl⟩ := List.mem_map.mp hw
  have hk := List.mem_range.mp hk
  match k, hk with
  | 0, _ => exact mw_107
  | 1, _ => exact mw_109
  | 2, _ => exact mw_111
  | 3, _ => exact mw_113
  | 4, _ => exact mw_115
  | 5, _ => exact mw_117
  | 6, _ => exact mw_119
  | 7, _ => exact mw_121
  | 8, _ => exact mw_123
  | 9, _ => exact mw_125
  | 10, _ => exact mw_127
  | 11, _ => exact mw_129
  | 12, _ => exact mw_131
  | 13, _ => exact mw_133
  | 14, _ => exact mw_135
  | k + 15, hk => exact absurd hk (by omega)
abbrev R_Sc : String := "RecordLake$Schemas"
def F_Sc : u_T := fun k => match k with
  | 0 => ("RecordLake$Schemas", "kind", "[I", true)
  | 1 => ("RecordLake$Schemas", "name", "[I", true)
  | 2 => ("RecordLake$Schemas", "part", "[I", true)
  | 3 => ("RecordLake$Schemas", "parts", "[I", true)
  | 4 => ("RecordLake$Schemas", "extra", "[I", true)
  | 5 => ("RecordLake$Schemas", "partName", "[I", true)
  | 6 => ("RecordLake$Schemas", "partSchema", "[I", true)
  | 7 => ("RecordLake$Schemas", "partDefault", "[I", true)
  | 8 => ("RecordLake$Schemas", "partDefaultBytes", "[I", true)
  | 9 => ("RecordLake$Schemas", "pool", "LRecordLake$Bytes;", true)
  | 10 => ("RecordLake$Schemas", "versions", "[I", true)
  | 11 => ("RecordLake$Schemas", "base", "I", false)
  | 12 => ("RecordLake$Schemas", "roots", "[I", true)
  | 13 => ("RecordLake$Schemas", "bases", "[I", true)
  | 14 => ("RecordLake$Schemas", "schemasUsed", "I", false)
  | 15 => ("RecordLake$Schemas", "partsUsed", "I", false)
  | 16 => ("RecordLake$Schemas", "basePart", "I", false)
  | _ => ("RecordLake$Schemas", "basePool", "I", false)
def t_Sc : Nat → FieldType := fun k => match k with
  | 0 => .array .int
  | 1 => .array .int
  | 2 => .array .int
  | 3 => .array .int
  | 4 => .array .int
  | 5 => .array .int
  | 6 => .array .int
  | 7 => .array .int
  | 8 => .array .int
  | 9 => .object "RecordLake$Bytes"
  | 10 => .array .int
  | 11 => .int
  | 12 => .array .int
  | 13 => .array .int
  | 14 => .int
  | 15 => .int
  | 16 => .int
  | _ => .int
theorem n_Sc : ∀ a, a < 18 → ∀ b, b < 18 → a ≠ b → (F_Sc a).2.1 ≠ (F_Sc b).2.1 := by decide +kernel
theorem t_Sc_ok : ∀ k, k < 18 → parseFieldDescriptor (F_Sc k).2.2.1 = some (t_Sc k) := by decide +kernel
theorem i_Sc : ∀ w ∈ u_ws R_Sc F_Sc 18, w ∈ gW := by
  intro w hw
  obtain ⟨k, hk, rfl⟩ := List.mem_map.mp hw
  have hk := List.mem_range.mp hk
  match k, hk with
  | 0, _ => exact mw_210
  | 1, _ => exact mw_212
  | 2, _ => exact mw_214
  | 3, _ => exact mw_216
  | 4, _ => exact mw_218
  | 5, _ => exact mw_220
  | 6, _ => exact mw_222
  | 7, _ => exact mw_224
  | 8, _ => exact mw_226
  | 9, _ => exact mw_228
  | 10, _ => exact mw_230
  | 11, _ => exact mw_232
  | 12, _ => exact mw_234
  | 13, _ => exact mw_236
  | 14, _ => exact mw_238
  | 15, _ => exact mw_240
  | 16, _ => exact mw_242
  | 17, _ => exact mw_244
  | k + 18, hk => exact absurd hk (by omega)
abbrev R_Sr : String := "RecordLake$SchemaReader"
def F_Sr : u_T := fun k => match k with
  | 0 => ("RecordLake$SchemaReader", "fault", "I", false)
  | 1 => ("RecordLake$SchemaReader", "place", "I", false)
  | 2 => ("RecordLake$SchemaReader", "text", "LRecordLake$Text;", true)
  | 3 => ("RecordLake$SchemaReader", "schemas", "LRecordLake$Schemas;", true)
  | 4 => ("RecordLake$SchemaReader", "defaults", "LRecordLake$Defaults;", true)
  | _ => ("RecordLake$SchemaReader", "lookedAt", "I", false)
def t_Sr : Nat → FieldType := fun k => match k with
  | 0 => .int
  | 1 => .int
  | 2 => .object "RecordLake$Text"
  | 3 => .object "RecordLake$Schemas"
  | 4 => .object "RecordLake$Defaults"
  | _ => .int
theorem n_Sr : ∀ a, a < 6 → ∀ b, b < 6 → a ≠ b → (F_Sr a).2.1 ≠ (F_Sr b).2.1 := by decide +kernel
theorem t_Sr_ok : ∀ k, k < 6 → parseFieldDescriptor (F_Sr k).2.2.1 = some (t_Sr k) := by decide +kernel
theorem i_Sr : ∀ w ∈ u_ws R_Sr F_Sr 6, w ∈ gW := by
  intro w hw
  obtain ⟨k, hk, rfl⟩ := List.mem_map.mp hw
  have hk := List.mem_range.mp hk
  match k, hk with
  | 0, _ => exact mw_283
  | 1, _ => exact mw_285
  | 2, _ => exact mw_287
  | 3, _ => exact mw_289
  | 4, _ => exact mw_291
  | 5, _ => exact mw_293
abbrev R_Df : String := "RecordLake$Defaults"
def F_Df : u_T := fun k => match k with
  | 0 => ("RecordLake$Defaults", "text", "LRecordLake$Text;", true)
  | 1 => ("RecordLake$Defaults", "schemas", "LRecordLake$Schemas;", true)
  | 2 => ("RecordLake$Defaults", "waitingValue", "[I", true)
  | 3 => ("RecordLake$Defaults", "waitingPart", "[I", true)
  | _ => ("RecordLake$Defaults", "waiting", "I", false)
def t_Df : Nat → FieldType := fun k => match k with
  | 0 => .object "RecordLake$Text"
  | 1 => .object "RecordLake$Schemas"
  | 2 => .array .int
  | 3 => .array .int
  | _ => .int
theorem n_Df : ∀ a, a < 5 → ∀ b, b < 5 → a ≠ b → (F_Df a).2.1 ≠ (F_Df b).2.1 := by decide +kernel
theorem t_Df_ok : ∀ k, k < 5 → parseFieldDescriptor (F_Df k).2.2.1 = some (t_Df k) := by decide +kernel
theorem i_Df : ∀ w ∈ u_ws R_Df F_Df 5, w ∈ gW := by
  intro w hw
  obtain ⟨k, hk, rfl⟩ := List.mem_map.mp hw
  have hk := List.mem_range.mp hk
  match k, hk with
  | 0, _ => exact mw_264
  | 1, _ => exact mw_266
  | 2, _ => exact mw_268
  | 3, _ => exact mw_270
  | 4, _ => exact mw_272
abbrev R_Pf : String := "RecordLake$PlainForm"
def F_Pf : u_T := fun k => match k with
  | 0 => ("RecordLake$PlainForm", "schemas", "LRecordLake$Schemas;", true)
  | 1 => ("RecordLake$PlainForm", "one", "LRecordLake$Bytes;", true)
  | 2 => ("RecordLake$PlainForm", "another", "LRecordLake$Bytes;", true)
  | 3 => ("RecordLake$PlainForm", "form", "LRecordLake$Bytes;", false)
  | _ => ("RecordLake$PlainForm", "latest", "I", false)
def t_Pf : Nat → FieldType := fun k => match k with
  | 0 => .object "RecordLake$Schemas"
  | 1 => .object "RecordLake$Bytes"
  | 2 => .object "RecordLake$Bytes"
  | 3 => .object "RecordLake$Bytes"
  | _ => .int
theorem n_Pf : ∀ a, a < 5 → ∀ b, b < 5 → a ≠ b → (F_Pf a).2.1 ≠ (F_Pf b).2.1 := by decide +kernel
theorem t_Pf_ok : ∀ k, k < 5 → parseFieldDescriptor (F_Pf k).2.2.1 = some (t_Pf k) := by decide +kernel
theorem i_Pf : ∀ w ∈ u_ws R_Pf F_Pf 5, w ∈ gW := by
  intro w hw
  obtain ⟨k, hk, rfl⟩ := List.mem_map.mp hw
  have hk := List.mem_range.mp hk
  match k, hk with
  | 0, _ => exact mw_309
  | 1, _ => exact mw_311
  | 2, _ => exact mw_313
  | 3, _ => exact mw_315
  | 4, _ => exact mw_317
abbrev R_Lo : String := "RecordLake$Looker"
def F_Lo : u_T := fun k => match k with
  | 0 => ("RecordLake$Looker", "normal", "LRecordLake$Bytes;", true)
  | 1 => ("RecordLake$Looker", "at", "I", false)
  | 2 => ("RecordLake$Looker", "fault", "I", false)
  | 3 => ("RecordLake$Looker", "place", "I", false)
  | 4 => ("RecordLake$Looker", "value", "J", false)
  | 5 => ("RecordLake$Looker", "schemas", "LRecordLake$Schemas;", true)
  | 6 => ("RecordLake$Looker", "source", "[B", false)
  | 7 => ("RecordLake$Looker", "limit", "I", false)
  | 8 => ("RecordLake$Looker", "data", "I", false)
  | _ => ("RecordLake$Looker", "items", "I", false)
def t_Lo : Nat → FieldType := fun k => match k with
  | 0 => .object "RecordLake$Bytes"
  | 1 => .int
  | 2 => .int
  | 3 => .int
  | 4 => .long
  | 5 => .object "RecordLake$Schemas"
  | 6 => .array .byte
  | 7 => .int
  | 8 => .int
  | _ => .int
theorem n_Lo : ∀ a, a < 10 → ∀ b, b < 10 → a ≠ b → (F_Lo a).2.1 ≠ (F_Lo b).2.1 := by decide +kernel
theorem t_Lo_ok : ∀ k, k < 10 → parseFieldDescriptor (F_Lo k).2.2.1 = some (t_Lo k) := by decide +kernel
theorem i_Lo : ∀ w ∈ u_ws R_Lo F_Lo 10, w ∈ gW := by
  intro w hw
  obtain ⟨k, hk, rfl⟩ := List.mem_map.mp hw
  have hk := List.mem_range.mp hk
  match k, hk with
  | 0, _ => exact mw_342
  | 1, _ => exact mw_344
  | 2, _ => exact mw_346
  | 3, _ => exact mw_348
  | 4, _ => exact mw_350
  | 5, _ => exact mw_352
  | 6, _ => exact mw_354
  | 7, _ => exact mw_356
  | 8, _ => exact mw_358
  | 9, _ => exact mw_360
  | k + 10, hk => exact absurd hk (by omega)
abbrev R_Ma : String := "RecordLake$Matching"
def F_Ma : u_T := fun k => match k with
  | 0 => ("RecordLake$Matching", "schemas", "LRecordLake$Schemas;", true)
  | 1 => ("RecordLake$Matching", "askedIn", "[I", true)
  | 2 => ("RecordLake$Matching", "pairs", "[I", true)
  | 3 => ("RecordLake$Matching", "asked", "I", false)
  | 4 => ("RecordLake$Matching", "question", "I", false)
  | 5 => ("RecordLake$Matching", "writerBase", "I", false)
  | _ => ("RecordLake$Matching", "readerBase", "I", false)
def t_Ma : Nat → FieldType := fun k => match k with
  | 0 => .object "RecordLake$Schemas"
  | 1 => .array .int
  | 2 => .array .int
  | 3 => .int
  | 4 => .int
  | 5 => .int
  | _ => .int
theorem n_Ma : ∀ a, a < 7 → ∀ b, b < 7 → a ≠ b → (F_Ma a).2.1 ≠ (F_Ma b).2.1 := by decide +kernel
theorem t_Ma_ok : ∀ k, k < 7 → parseFieldDescriptor (F_Ma k).2.2.1 = some (t_Ma k) := by decide +kernel
theorem i_Ma : ∀ w ∈ u_ws R_Ma F_Ma 7, w ∈ gW := by
  intro w hw
  obtain ⟨k, hk, rfl⟩ := List.mem_map.mp hw
  have hk := List.mem_range.mp hk
  match k, hk with
  | 0, _ => exact mw_376
  | 1, _ => exact mw_378
  | 2, _ => exact mw_380
  | 3, _ => exact mw_382
  | 4, _ => exact mw_384
  | 5, _ => exact mw_386
  | 6, _ => exact mw_388
abbrev R_Te : String := "RecordLake$Teller"
def F_Te : u_T := fun k => match k with
  | 0 => ("RecordLake$Teller", "at", "I", false)
  | 1 => ("RecordLake$Teller", "limit", "I", false)
  | 2 => ("RecordLake$Teller", "schemas", "LRecordLake$Schemas;", true)
  | 3 => ("RecordLake$Teller", "matching", "LRecordLake$Matching;", true)
  | 4 => ("RecordLake$Teller", "fieldBegins", "[I", true)
  | 5 => ("RecordLake$Teller", "source", "[B", false)
  | _ => ("RecordLake$Teller", "sink", "LRecordLake$Bytes;", false)
def t_Te : Nat → FieldType := fun k => match k with
  | 0 => .int
  | 1 => .int
  | 2 => .object "RecordLake$Schemas"
  | 3 => .object "RecordLake$Matching"
  | 4 => .array .int
  | 5 => .array .byte
  | _ => .object "RecordLake$Bytes"
theorem n_Te : ∀ a, a < 7 → ∀ b, b < 7 → a ≠ b → (F_Te a).2.1 ≠ (F_Te b).2.1 := by decide +kernel
theorem t_Te_ok : ∀ k, k < 7 → parseFieldDescriptor (F_Te k).2.2.1 = some (t_Te k) := by decide +kernel
theorem i_Te : ∀ w ∈ u_ws R_Te F_Te 7, w ∈ gW := by
  intro w hw
  obtain ⟨k, hk, rfl⟩ := List.mem_map.mp hw
  have hk := List.mem_range.mp hk
  match k, hk with
  | 0, _ => exact mw_408
  | 1, _ => exact mw_410
  | 2, _ => exact mw_412
  | 3, _ => exact mw_414
  | 4, _ => exact mw_416
  | 5, _ => exact mw_418
  | 6, _ => exact mw_420
abbrev R_Dk : String := "RecordLake$Disk"
def F_Dk : u_T := fun k => match k with
  | 0 => ("RecordLake$Disk", "bytes", "[B", true)
  | _ => ("RecordLake$Disk", "untilLoss", "I", false)
def t_Dk : Nat → FieldType := fun k => match k with
  | 0 => .array .byte
  | _ => .int
theorem n_Dk : ∀ a, a < 2 → ∀ b, b < 2 → a ≠ b → (F_Dk a).2.1 ≠ (F_Dk b).2.1 := by decide +kernel
theorem t_Dk_ok : ∀ k, k < 2 → parseFieldDescriptor (F_Dk k).2.2.1 = some (t_Dk k) := by decide +kernel
theorem i_Dk : ∀ w ∈ u_ws R_Dk F_Dk 2, w ∈ gW := by
  intro w hw
  obtain ⟨k, hk, rfl⟩ := List.mem_map.mp hw
  have hk := List.mem_range.mp hk
  match k, hk with
  | 0, _ => exact mw_435
  | 1, _ => exact mw_437
abbrev R_Fl : String := "RecordLake$FileList"
def F_Fl : u_T := fun k => match k with
  | 0 => ("RecordLake$FileList", "owner", "[I", true)
  | 1 => ("RecordLake$FileList", "version", "[I", true)
  | 2 => ("RecordLake$FileList", "first", "[I", true)
  | 3 => ("RecordLake$FileList", "wants", "[I", true)
  | 4 => ("RecordLake$FileList", "rows", "[I", true)
  | 5 => ("RecordLake$FileList", "length", "I", false)
  | 6 => ("RecordLake$FileList", "turn", "I", false)
  | 7 => ("RecordLake$FileList", "block", "LRecordLake$Bytes;", true)
  | _ => ("RecordLake$FileList", "isUsed", "[Z", true)
def t_Fl : Nat → FieldType := fun k => match k with
  | 0 => .array .int
  | 1 => .array .int
  | 2 => .array .int
  | 3 => .array .int
  | 4 => .array .int
  | 5 => .int
  | 6 => .int
  | 7 => .object "RecordLake$Bytes"
  | _ => .array .boolean
theorem n_Fl : ∀ a, a < 9 → ∀ b, b < 9 → a ≠ b → (F_Fl a).2.1 ≠ (F_Fl b).2.1 := by decide +kernel
theorem t_Fl_ok : ∀ k, k < 9 → parseFieldDescriptor (F_Fl k).2.2.1 = some (t_Fl k) := by decide +kernel
theorem i_Fl : ∀ w ∈ u_ws R_Fl F_Fl 9, w ∈ gW := by
  intro w hw
  obtain ⟨k, hk, rfl⟩ := List.mem_map.mp hw
  have hk := List.mem_range.mp hk
  match k, hk with
  | 0, _ => exact mw_463
  | 1, _ => exact mw_465
  | 2, _ => exact mw_467
  | 3, _ => exact mw_469
  | 4, _ => exact mw_471
  | 5, _ => exact mw_473
  | 6, _ => exact mw_475
  | 7, _ => exact mw_477
  | 8, _ => exact mw_479
abbrev R_Lk : String := "RecordLake"
def F_Lk : u_T := fun k => match k with
  | 0 => ("RecordLake", "tape", "LRecordLake$Bytes;", true)
  | 1 => ("RecordLake", "plain", "LRecordLake$Bytes;", true)
  | 2 => ("RecordLake", "out", "LRecordLake$Bytes;", true)
  | 3 => ("RecordLake", "toldRow", "LRecordLake$Bytes;", true)
  | 4 => ("RecordLake", "gathered", "LRecordLake$Bytes;", true)
  | 5 => ("RecordLake", "content", "LRecordLake$Bytes;", true)
  | 6 => ("RecordLake", "text", "LRecordLake$Text;", true)
  | 7 => ("RecordLake", "schemas", "LRecordLake$Schemas;", true)
  | 8 => ("RecordLake", "reader", "LRecordLake$SchemaReader;", true)
  | 9 => ("RecordLake", "forms", "LRecordLake$PlainForm;", true)
  | 10 => ("RecordLake", "looker", "LRecordLake$Looker;", true)
  | 11 => ("RecordLake", "matching", "LRecordLake$Matching;", true)
  | 12 => ("RecordLake", "teller", "LRecordLake$Teller;", true)
  | 13 => ("RecordLake", "disk", "LRecordLake$Disk;", true)
  | 14 => ("RecordLake", "list", "LRecordLake$FileList;", true)
  | 15 => ("RecordLake", "faultPlace", "I", false)
  | _ => ("RecordLake", "down", "Z", false)
def t_Lk : Nat → FieldType := fun k => match k with
  | 0 => .object "RecordLake$Bytes"
  | 1 => .object "RecordLake$Bytes"
  | 2 => .object "RecordLake$Bytes"
  | 3 => .object "RecordLake$Bytes"
  | 4 => .object "RecordLake$Bytes"
  | 5 => .object "RecordLake$Bytes"
  | 6 => .object "RecordLake$Text"
  | 7 => .object "RecordLake$Schemas"
  | 8 => .object "RecordLake$SchemaReader"
  | 9 => .object "RecordLake$PlainForm"
  | 10 => .object "RecordLake$Looker"
  | 11 => .object "RecordLake$Matching"
  | 12 => .object "RecordLake$Teller"
  | 13 => .object "RecordLake$Disk"
  | 14 => .object "RecordLake$FileList"
  | 15 => .int
  | _ => .boolean
theorem n_Lk : ∀ a, a < 17 → ∀ b, b < 17 → a ≠ b → (F_Lk a).2.1 ≠ (F_Lk b).2.1 := by decide +kernel
theorem t_Lk_ok : ∀ k, k < 17 → parseFieldDescriptor (F_Lk k).2.2.1 = some (t_Lk k) := by decide +kernel
theorem i_Lk : ∀ w ∈ u_ws R_Lk F_Lk 17, w ∈ gW := by
  intro w hw
  obtain ⟨k, hk, rfl⟩ := List.mem_map.mp hw
  have hk := List.mem_range.mp hk
  match k, hk with
  | 0, _ => exact mw_500
  | 1, _ => exact mw_502
  | 2, _ => exact mw_504
  | 3, _ => exact mw_506
  | 4, _ => exact mw_508
  | 5, _ => exact mw_510
  | 6, _ => exact mw_512
  | 7, _ => exact mw_514
  | 8, _ => exact mw_516
  | 9, _ => exact mw_518
  | 10, _ => exact mw_520
  | 11, _ => exact mw_522
  | 12, _ => exact mw_524
  | 13, _ => exact mw_526
  | 14, _ => exact mw_528
  | 15, _ => exact mw_530
  | 16, _ => exact mw_532
  | k + 17, hk => exact absurd hk (by omega)
abbrev R_Mt : String := "RecordLakeModel$Text"
def F_Mt : u_T := fun k => match k with
  | 0 => ("RecordLakeModel$Text", "bytes", "[B", true)
  | 1 => ("RecordLakeModel$Text", "length", "I", false)
  | 2 => ("RecordLakeModel$Text", "at", "I", false)
  | 3 => ("RecordLakeModel$Text", "deep", "I", false)
  | 4 => ("RecordLakeModel$Text", "fault", "I", false)
  | 5 => ("RecordLakeModel$Text", "place", "I", false)
  | 6 => ("RecordLakeModel$Text", "end", "I", false)
  | 7 => ("RecordLakeModel$Text", "nodes", "I", false)
  | 8 => ("RecordLakeModel$Text", "kinds", "[I", true)
  | 9 => ("RecordLakeModel$Text", "firsts", "[I", true)
  | 10 => ("RecordLakeModel$Text", "numbers", "[J", true)
  | 11 => ("RecordLakeModel$Text", "sizes", "[I", true)
  | 12 => ("RecordLakeModel$Text", "inner", "[I", true)
  | 13 => ("RecordLakeModel$Text", "nexts", "[I", true)
  | 14 => ("RecordLakeModel$Text", "letters", "[B", true)
  | 15 => ("RecordLakeModel$Text", "lettered", "I", false)
  | 16 => ("RecordLakeModel$Text", "shapes", "I", false)
  | 17 => ("RecordLakeModel$Text", "looked", "I", false)
  | 18 => ("RecordLakeModel$Text", "sorts", "[I", true)
  | 19 => ("RecordLakeModel$Text", "names", "[I", true)
  | 20 => ("RecordLakeModel$Text", "wide", "[I", true)
  | 21 => ("RecordLakeModel$Text", "kids", "[I", true)
  | 22 => ("RecordLakeModel$Text", "many", "[I", true)
  | 23 => ("RecordLakeModel$Text", "fallback", "[I", true)
  | 24 => ("RecordLakeModel$Text", "kidCount", "I", false)
  | 25 => ("RecordLakeModel$Text", "kidShape", "[I", true)
  | 26 => ("RecordLakeModel$Text", "kidName", "[I", true)
  | 27 => ("RecordLakeModel$Text", "kidDefault", "[I", true)
  | 28 => ("RecordLakeModel$Text", "kidNext", "[I", true)
  | 29 => ("RecordLakeModel$Text", "done", "I", false)
  | 30 => ("RecordLakeModel$Text", "finished", "[I", true)
  | 31 => ("RecordLakeModel$Text", "root", "I", false)
  | 32 => ("RecordLakeModel$Text", "plain", "[B", true)
  | 33 => ("RecordLakeModel$Text", "plainSize", "I", false)
  | _ => ("RecordLakeModel$Text", "told", "[Z", true)
def t_Mt : Nat → FieldType := fun k => match k with
  | 0 => .array .byte
  | 1 => .int
  | 2 => .int
  | 3 => .int
  | 4 => .int
  | 5 => .int
  | 6 => .int
  | 7 => .int
  | 8 => .array .int
  | 9 => .array .int
  | 10 => .array .long
  | 11 => .array .int
  | 12 => .array .int
  | 13 => .array .int
  | 14 => .array .byte
  | 15 => .int
  | 16 => .int
  | 17 => .int
  | 18 => .array .int
  | 19 => .array .int
  | 20 => .array .int
  | 21 => .array .int
  | 22 => .array .int
  | 23 => .array .int
  | 24 => .int
  | 25 => .array .int
  | 26 => .array .int
  | 27 => .array .int
  | 28 => .array .int
  | 29 => .int
  | 30 => .array .int
  | 31 => .int
  | 32 => .array .byte
  | 33 => .int
  | _ => .array .boolean
theorem n_Mt : ∀ a, a < 35 → ∀ b, b < 35 → a ≠ b → (F_Mt a).2.1 ≠ (F_Mt b).2.1 := by decide +kernel
theorem t_Mt_ok : ∀ k, k < 35 → parseFieldDescriptor (F_Mt k).2.2.1 = some (t_Mt k) := by decide +kernel
theorem i_Mt : ∀ w ∈ u_ws R_Mt F_Mt 35, w ∈ gW := by
  intro w hw
  obtain ⟨k, hk, rfl⟩ := List.mem_map.mp hw
  have hk := List.mem_range.mp hk
  match k, hk with
  | 0, _ => exact mw_1644
  | 1, _ => exact mw_1646
  | 2, _ => exact mw_1648
  | 3, _ => exact mw_1650
  | 4, _ => exact mw_1652
  | 5, _ => exact mw_1654
  | 6, _ => exact mw_1656
  | 7, _ => exact mw_1658
  | 8, _ => exact mw_1660
  | 9, _ => exact mw_1662
  | 10, _ => exact mw_1664
  | 11, _ => exact mw_1666
  | 12, _ => exact mw_1668
  | 13, _ => exact mw_1670
  | 14, _ => exact mw_1672
  | 15, _ => exact mw_1674
  | 16, _ => exact mw_1676
  | 17, _ => exact mw_1678
  | 18, _ => exact mw_1680
  | 19, _ => exact mw_1682
  | 20, _ => exact mw_1684
  | 21, _ => exact mw_1686
  | 22, _ => exact mw_1688
  | 23, _ => exact mw_1690
  | 24, _ => exact mw_1692
  | 25, _ => exact mw_1694
  | 26, _ => exact mw_1696
  | 27, _ => exact mw_1698
  | 28, _ => exact mw_1700
  | 29, _ => exact mw_1702
  | 30, _ => exact mw_1704
  | 31, _ => exact mw_1706
  | 32, _ => exact mw_1708
  | 33, _ => exact mw_1710
  | 34, _ => exact mw_1712
  | k + 35, hk => exact absurd hk (by omega)
abbrev R_Mo : String := "RecordLakeModel"
def F_Mo : u_T := fun k => match k with
  | 0 => ("RecordLakeModel", "thrown", "I", false)
  | 1 => ("RecordLakeModel", "tape", "[B", true)
  | 2 => ("RecordLakeModel", "taped", "I", false)
  | 3 => ("RecordLakeModel", "place", "I", false)
  | 4 => ("RecordLakeModel", "typed", "LRecordLakeModel$Text;", true)
  | 5 => ("RecordLakeModel", "left", "LRecordLakeModel$Text;", true)
  | 6 => ("RecordLakeModel", "right", "LRecordLakeModel$Text;", true)
  | 7 => ("RecordLakeModel", "plain", "[B", true)
  | 8 => ("RecordLakeModel", "plainSize", "I", false)
  | 9 => ("RecordLakeModel", "out", "[B", true)
  | 10 => ("RecordLakeModel", "outSize", "I", false)
  | 11 => ("RecordLakeModel", "down", "Z", false)
  | 12 => ("RecordLakeModel", "power", "I", false)
  | 13 => ("RecordLakeModel", "files", "I", false)
  | 14 => ("RecordLakeModel", "subjectOf", "[I", true)
  | 15 => ("RecordLakeModel", "versionOf", "[I", true)
  | 16 => ("RecordLakeModel", "blockOf", "[I", true)
  | 17 => ("RecordLakeModel", "wants", "[I", true)
  | 18 => ("RecordLakeModel", "rowsOf", "[I", true)
  | 19 => ("RecordLakeModel", "sizeOf", "[I", true)
  | 20 => ("RecordLakeModel", "disk", "[B", true)
  | 21 => ("RecordLakeModel", "made", "[B", true)
  | 22 => ("RecordLakeModel", "madeSize", "I", false)
  | 23 => ("RecordLakeModel", "at", "I", false)
  | 24 => ("RecordLakeModel", "fault", "I", false)
  | 25 => ("RecordLakeModel", "where", "I", false)
  | 26 => ("RecordLakeModel", "items", "I", false)
  | 27 => ("RecordLakeModel", "data", "I", false)
  | 28 => ("RecordLakeModel", "asked", "[Z", true)
  | 29 => ("RecordLakeModel", "pairs", "[I", true)
  | 30 => ("RecordLakeModel", "many", "I", false)
  | 31 => ("RecordLakeModel", "from", "I", false)
  | 32 => ("RecordLakeModel", "stop", "I", false)
  | 33 => ("RecordLakeModel", "all", "[B", true)
  | _ => ("RecordLakeModel", "away", "[B", true)
def t_Mo : Nat → FieldType := fun k => match k with
  | 0 => .int
  | 1 => .array .byte
  | 2 => .int
  | 3 => .int
  | 4 => .object "RecordLakeModel$Text"
  | 5 => .object "RecordLakeModel$Text"
  | 6 => .object "RecordLakeModel$Text"
  | 7 => .array .byte
  | 8 => .int
  | 9 => .array .byte
  | 10 => .int
  | 11 => .boolean
  | 12 => .int
  | 13 => .int
  | 14 => .array .int
  | 15 => .array .int
  | 16 => .array .int
  | 17 => .array .int
  | 18 => .array .int
  | 19 => .array .int
  | 20 => .array .byte
  | 21 => .array .byte
  | 22 => .int
  | 23 => .int
  | 24 => .int
  | 25 => .int
  | 26 => .int
  | 27 => .int
  | 28 => .array .boolean
  | 29 => .array .int
  | 30 => .int
  | 31 => .int
  | 32 => .int
  | 33 => .array .byte
  | _ => .array .byte
theorem n_Mo : ∀ a, a < 35 → ∀ b, b < 35 → a ≠ b → (F_Mo a).2.1 ≠ (F_Mo b).2.1 := by decide +kernel
theorem t_Mo_ok : ∀ k, k < 35 → parseFieldDescriptor (F_Mo k).2.2.1 = some (t_Mo k) := by decide +kernel
theorem i_Mo : ∀ w ∈ u_ws R_Mo F_Mo 35, w ∈ gW := by
  intro w hw
  obtain ⟨k, hk, rfl⟩ := List.mem_map.mp hw
  have hk := List.mem_range.mp hk
  match k, hk with
  | 0, _ => exact mw_1751
  | 1, _ => exact mw_1753
  | 2, _ => exact mw_1755
  | 3, _ => exact mw_1757
  | 4, _ => exact mw_1759
  | 5, _ => exact mw_1761
  | 6, _ => exact mw_1763
  | 7, _ => exact mw_1765
  | 8, _ => exact mw_1767
  | 9, _ => exact mw_1769
  | 10, _ => exact mw_1771
  | 11, _ => exact mw_1773
  | 12, _ => exact mw_1775
  | 13, _ => exact mw_1777
  | 14, _ => exact mw_1779
  | 15, _ => exact mw_1781
  | 16, _ => exact mw_1783
  | 17, _ => exact mw_1785
  | 18, _ => exact mw_1787
  | 19, _ => exact mw_1789
  | 20, _ => exact mw_1791
  | 21, _ => exact mw_1793
  | 22, _ => exact mw_1795
  | 23, _ => exact mw_1797
  | 24, _ => exact mw_1799
  | 25, _ => exact mw_1801
  | 26, _ => exact mw_1803
  | 27, _ => exact mw_1805
  | 28, _ => exact mw_1807
  | 29, _ => exact mw_1809
  | 30, _ => exact mw_1811
  | 31, _ => exact mw_1813
  | 32, _ => exact mw_1815
  | 33, _ => exact mw_1817
  | 34, _ => exact mw_1819
  | k + 35, hk => exact absurd hk (by omega)
abbrev vC : List vw_C := [(R_By, F_By, 2), (R_Tx, F_Tx, 15), (R_Sc, F_Sc, 18), (R_Sr, F_Sr, 6), (R_Df, F_Df, 5), (R_Pf, F_Pf, 5), (R_Lo, F_Lo, 10), (R_Ma, F_Ma, 7), (R_Te, F_Te, 7), (R_Dk, F_Dk, 2), (R_Fl, F_Fl, 9), (R_Lk, F_Lk, 17), (R_Mt, F_Mt, 35), (R_Mo, F_Mo, 35)]
