/-! names: methods, their instructions, words -/
theorem mw_968 : Cond.codeWith ⟨"RecordLakeLaw", "feed", "(LRecordLake;IIIII[J)I"⟩ method_3_code 8 (some .int) [(0, 16, 19, 13)] ∈ gW := gw_of (List.mem_of_getElem? (i := 968) (by decide +kernel)) (by decide +kernel)
theorem mw_969 : Cond.classLink "RecordLakeLaw" 13 "java/lang/IllegalStateException" ∈ gW := gw_of (List.mem_of_getElem? (i := 969) (by decide +kernel)) (by decide +kernel)
theorem mw_970 : Cond.methodLink "RecordLakeLaw" 7 ⟨"RecordLake", "feed", "(IIIII)I"⟩ ∈ gW := gw_of (List.mem_of_getElem? (i := 970) (by decide +kernel)) (by decide +kernel)
theorem mw_971 : Cond.instanceMethod ⟨"RecordLake", "feed", "(IIIII)I"⟩ ∈ gW := gw_of (List.mem_of_getElem? (i := 971) (by decide +kernel)) (by decide +kernel)
theorem mw_972 : Cond.selects "RecordLake" ⟨"RecordLake", "feed", "(IIIII)I"⟩ ⟨"RecordLake", "feed", "(IIIII)I"⟩ ∈ gW := gw_of (List.mem_of_getElem? (i := 972) (by decide +kernel)) (by decide +kernel)
theorem mw_1071 : Cond.codeWith ⟨"RecordLakeLaw", "register", "(LRecordLake;I[J)I"⟩ method_5_code 4 (some .int) [(0, 9, 12, 25)] ∈ gW := gw_of (List.mem_of_getElem? (i := 1071) (by decide +kernel)) (by decide +kernel)
theorem mw_1072 : Cond.classLink "RecordLakeLaw" 25 "java/lang/IndexOutOfBoundsException" ∈ gW := gw_of (List.mem_of_getElem? (i := 1072) (by decide +kernel)) (by decide +kernel)
theorem mw_1073 : Cond.methodLink "RecordLakeLaw" 21 ⟨"RecordLake", "register", "(I)I"⟩ ∈ gW := gw_of (List.mem_of_getElem? (i := 1073) (by decide +kernel)) (by decide +kernel)
theorem mw_1074 : Cond.instanceMethod ⟨"RecordLake", "register", "(I)I"⟩ ∈ gW := gw_of (List.mem_of_getElem? (i := 1074) (by decide +kernel)) (by decide +kernel)
theorem mw_1075 : Cond.selects "RecordLake" ⟨"RecordLake", "register", "(I)I"⟩ ⟨"RecordLake", "register", "(I)I"⟩ ∈ gW := gw_of (List.mem_of_getElem? (i := 1075) (by decide +kernel)) (by decide +kernel)
theorem mw_1225 : Cond.codeWith ⟨"RecordLakeLaw", "look", "(LRecordLake;II[J)I"⟩ method_6_code 5 (some .int) [(0, 10, 13, 25)] ∈ gW := gw_of (List.mem_of_getElem? (i := 1225) (by decide +kernel)) (by decide +kernel)
theorem mw_1226 : Cond.methodLink "RecordLakeLaw" 27 ⟨"RecordLake", "look", "(II)I"⟩ ∈ gW := gw_of (List.mem_of_getElem? (i := 1226) (by decide +kernel)) (by decide +kernel)
theorem mw_1227 : Cond.instanceMethod ⟨"RecordLake", "look", "(II)I"⟩ ∈ gW := gw_of (List.mem_of_getElem? (i := 1227) (by decide +kernel)) (by decide +kernel)
theorem mw_1228 : Cond.selects "RecordLake" ⟨"RecordLake", "look", "(II)I"⟩ ⟨"RecordLake", "look", "(II)I"⟩ ∈ gW := gw_of (List.mem_of_getElem? (i := 1228) (by decide +kernel)) (by decide +kernel)
theorem mw_1310 : Cond.codeWith ⟨"RecordLakeLaw", "load", "(LRecordLake;II[J)I"⟩ method_7_code 5 (some .int) [(0, 10, 13, 25)] ∈ gW := gw_of (List.mem_of_getElem? (i := 1310) (by decide +kernel)) (by decide +kernel)
theorem mw_1311 : Cond.methodLink "RecordLakeLaw" 31 ⟨"RecordLake", "load", "(II)I"⟩ ∈ gW := gw_of (List.mem_of_getElem? (i := 1311) (by decide +kernel)) (by decide +kernel)
theorem mw_1312 : Cond.instanceMethod ⟨"RecordLake", "load", "(II)I"⟩ ∈ gW := gw_of (List.mem_of_getElem? (i := 1312) (by decide +kernel)) (by decide +kernel)
theorem mw_1313 : Cond.selects "RecordLake" ⟨"RecordLake", "load", "(II)I"⟩ ⟨"RecordLake", "load", "(II)I"⟩ ∈ gW := gw_of (List.mem_of_getElem? (i := 1313) (by decide +kernel)) (by decide +kernel)
theorem mw_1323 : Cond.codeWith ⟨"RecordLakeLaw", "read", "(LRecordLake;III[J)I"⟩ method_8_code 6 (some .int) [(0, 12, 15, 25)] ∈ gW := gw_of (List.mem_of_getElem? (i := 1323) (by decide +kernel)) (by decide +kernel)
theorem mw_1324 : Cond.methodLink "RecordLakeLaw" 34 ⟨"RecordLake", "read", "(III)I"⟩ ∈ gW := gw_of (List.mem_of_getElem? (i := 1324) (by decide +kernel)) (by decide +kernel)
theorem mw_1325 : Cond.instanceMethod ⟨"RecordLake", "read", "(III)I"⟩ ∈ gW := gw_of (List.mem_of_getElem? (i := 1325) (by decide +kernel)) (by decide +kernel)
theorem mw_1326 : Cond.selects "RecordLake" ⟨"RecordLake", "read", "(III)I"⟩ ⟨"RecordLake", "read", "(III)I"⟩ ∈ gW := gw_of (List.mem_of_getElem? (i := 1326) (by decide +kernel)) (by decide +kernel)
theorem mw_1410 : Cond.codeWith ⟨"RecordLakeLaw", "copy", "(LRecordLake;III[J)I"⟩ method_9_code 6 (some .int) [(0, 12, 15, 25)] ∈ gW := gw_of (List.mem_of_getElem? (i := 1410) (by decide +kernel)) (by decide +kernel)
theorem mw_1411 : Cond.methodLink "RecordLakeLaw" 38 ⟨"RecordLake", "copy", "(III)I"⟩ ∈ gW := gw_of (List.mem_of_getElem? (i := 1411) (by decide +kernel)) (by decide +kernel)
theorem mw_1412 : Cond.instanceMethod ⟨"RecordLake", "copy", "(III)I"⟩ ∈ gW := gw_of (List.mem_of_getElem? (i := 1412) (by decide +kernel)) (by decide +kernel)
theorem mw_1413 : Cond.selects "RecordLake" ⟨"RecordLake", "copy", "(III)I"⟩ ⟨"RecordLake", "copy", "(III)I"⟩ ∈ gW := gw_of (List.mem_of_getElem? (i := 1413) (by decide +kernel)) (by decide +kernel)
theorem mw_1426 : Cond.codeWith ⟨"RecordLakeLaw", "compact", "(LRecordLake;I[J)I"⟩ method_10_code 4 (some .int) [(0, 9, 12, 25)] ∈ gW := gw_of (List.mem_of_getElem? (i := 1426) (by decide +kernel)) (by decide +kernel)
theorem mw_1427 : Cond.methodLink "RecordLakeLaw" 41 ⟨"RecordLake", "compact", "(I)I"⟩ ∈ gW := gw_of (List.mem_of_getElem? (i := 1427) (by decide +kernel)) (by decide +kernel)
theorem mw_1428 : Cond.instanceMethod ⟨"RecordLake", "compact", "(I)I"⟩ ∈ gW := gw_of (List.mem_of_getElem? (i := 1428) (by decide +kernel)) (by decide +kernel)
theorem mw_1429 : Cond.selects "RecordLake" ⟨"RecordLake", "compact", "(I)I"⟩ ⟨"RecordLake", "compact", "(I)I"⟩ ∈ gW := gw_of (List.mem_of_getElem? (i := 1429) (by decide +kernel)) (by decide +kernel)
theorem mw_1470 : Cond.codeWith ⟨"RecordLakeLaw", "clear", "(LRecordLake;I[J)I"⟩ method_11_code 4 (some .int) [(0, 9, 12, 25)] ∈ gW := gw_of (List.mem_of_getElem? (i := 1470) (by decide +kernel)) (by decide +kernel)
theorem mw_1471 : Cond.methodLink "RecordLakeLaw" 44 ⟨"RecordLake", "clear", "(I)I"⟩ ∈ gW := gw_of (List.mem_of_getElem? (i := 1471) (by decide +kernel)) (by decide +kernel)
theorem mw_1472 : Cond.instanceMethod ⟨"RecordLake", "clear", "(I)I"⟩ ∈ gW := gw_of (List.mem_of_getElem? (i := 1472) (by decide +kernel)) (by decide +kernel)
theorem mw_1473 : Cond.selects "RecordLake" ⟨"RecordLake", "clear", "(I)I"⟩ ⟨"RecordLake", "clear", "(I)I"⟩ ∈ gW := gw_of (List.mem_of_getElem? (i := 1473) (by decide +kernel)) (by decide +kernel)
theorem mw_1485 : Cond.codeWith ⟨"RecordLakeLaw", "fits", "(LRecordLake;IIII[J)I"⟩ method_12_code 7 (some .int) [(0, 21, 24, 25)] ∈ gW := gw_of (List.mem_of_getElem? (i := 1485) (by decide +kernel)) (by decide +kernel)
theorem mw_1486 : Cond.methodLink "RecordLakeLaw" 47 ⟨"RecordLake", "fits", "(IIII)Z"⟩ ∈ gW := gw_of (List.mem_of_getElem? (i := 1486) (by decide +kernel)) (by decide +kernel)
theorem mw_1487 : Cond.instanceMethod ⟨"RecordLake", "fits", "(IIII)Z"⟩ ∈ gW := gw_of (List.mem_of_getElem? (i := 1487) (by decide +kernel)) (by decide +kernel)
theorem mw_1488 : Cond.selects "RecordLake" ⟨"RecordLake", "fits", "(IIII)Z"⟩ ⟨"RecordLake", "fits", "(IIII)Z"⟩ ∈ gW := gw_of (List.mem_of_getElem? (i := 1488) (by decide +kernel)) (by decide +kernel)
theorem mw_1492 : Cond.codeWith ⟨"RecordLakeLaw", "count", "(LRecordLake;II[J)I"⟩ method_13_code 5 (some .int) [(0, 10, 13, 25), (0, 10, 17, 19)] ∈ gW := gw_of (List.mem_of_getElem? (i := 1492) (by decide +kernel)) (by decide +kernel)
theorem mw_1493 : Cond.methodLink "RecordLakeLaw" 51 ⟨"RecordLake", "count", "(II)I"⟩ ∈ gW := gw_of (List.mem_of_getElem? (i := 1493) (by decide +kernel)) (by decide +kernel)
theorem mw_1494 : Cond.instanceMethod ⟨"RecordLake", "count", "(II)I"⟩ ∈ gW := gw_of (List.mem_of_getElem? (i := 1494) (by decide +kernel)) (by decide +kernel)
theorem mw_1495 : Cond.selects "RecordLake" ⟨"RecordLake", "count", "(II)I"⟩ ⟨"RecordLake", "count", "(II)I"⟩ ∈ gW := gw_of (List.mem_of_getElem? (i := 1495) (by decide +kernel)) (by decide +kernel)
theorem mw_1507 : Cond.codeWith ⟨"RecordLakeLaw", "print", "(LRecordLake;II[J)I"⟩ method_14_code 5 (some .int) [(0, 9, 12, 25)] ∈ gW := gw_of (List.mem_of_getElem? (i := 1507) (by decide +kernel)) (by decide +kernel)
theorem mw_1508 : Cond.methodLink "RecordLakeLaw" 54 ⟨"RecordLake", "print", "(II)J"⟩ ∈ gW := gw_of (List.mem_of_getElem? (i := 1508) (by decide +kernel)) (by decide +kernel)
theorem mw_1509 : Cond.instanceMethod ⟨"RecordLake", "print", "(II)J"⟩ ∈ gW := gw_of (List.mem_of_getElem? (i := 1509) (by decide +kernel)) (by decide +kernel)
theorem mw_1510 : Cond.selects "RecordLake" ⟨"RecordLake", "print", "(II)J"⟩ ⟨"RecordLake", "print", "(II)J"⟩ ∈ gW := gw_of (List.mem_of_getElem? (i := 1510) (by decide +kernel)) (by decide +kernel)
theorem mw_1519 : Cond.codeWith ⟨"RecordLakeLaw", "letter", "(LRecordLake;II[J)I"⟩ method_15_code 5 (some .int) [(0, 10, 13, 25), (0, 10, 17, 19)] ∈ gW := gw_of (List.mem_of_getElem? (i := 1519) (by decide +kernel)) (by decide +kernel)
theorem mw_1520 : Cond.methodLink "RecordLakeLaw" 58 ⟨"RecordLake", "letter", "(II)I"⟩ ∈ gW := gw_of (List.mem_of_getElem? (i := 1520) (by decide +kernel)) (by decide +kernel)
theorem mw_1521 : Cond.instanceMethod ⟨"RecordLake", "letter", "(II)I"⟩ ∈ gW := gw_of (List.mem_of_getElem? (i := 1521) (by decide +kernel)) (by decide +kernel)
theorem mw_1522 : Cond.selects "RecordLake" ⟨"RecordLake", "letter", "(II)I"⟩ ⟨"RecordLake", "letter", "(II)I"⟩ ∈ gW := gw_of (List.mem_of_getElem? (i := 1522) (by decide +kernel)) (by decide +kernel)
theorem mw_1528 : Cond.codeWith ⟨"RecordLakeLaw", "size", "(LRecordLake;I[J)I"⟩ method_16_code 4 (some .int) [(0, 9, 12, 19)] ∈ gW := gw_of (List.mem_of_getElem? (i := 1528) (by decide +kernel)) (by decide +kernel)
theorem mw_1529 : Cond.methodLink "RecordLakeLaw" 61 ⟨"RecordLake", "size", "(I)I"⟩ ∈ gW := gw_of (List.mem_of_getElem? (i := 1529) (by decide +kernel)) (by decide +kernel)
theorem mw_1530 : Cond.instanceMethod ⟨"RecordLake", "size", "(I)I"⟩ ∈ gW := gw_of (List.mem_of_getElem? (i := 1530) (by decide +kernel)) (by decide +kernel)
theorem mw_1531 : Cond.selects "RecordLake" ⟨"RecordLake", "size", "(I)I"⟩ ⟨"RecordLake", "size", "(I)I"⟩ ∈ gW := gw_of (List.mem_of_getElem? (i := 1531) (by decide +kernel)) (by decide +kernel)
theorem mw_1535 : Cond.codeWith ⟨"RecordLakeLaw", "file", "(LRecordLake;II[J)I"⟩ method_17_code 5 (some .int) [(0, 10, 13, 25), (0, 10, 17, 19)] ∈ gW := gw_of (List.mem_of_getElem? (i := 1535) (by decide +kernel)) (by decide +kernel)
theorem mw_1536 : Cond.methodLink "RecordLakeLaw" 64 ⟨"RecordLake", "file", "(II)I"⟩ ∈ gW := gw_of (List.mem_of_getElem? (i := 1536) (by decide +kernel)) (by decide +kernel)
theorem mw_1537 : Cond.instanceMethod ⟨"RecordLake", "file", "(II)I"⟩ ∈ gW := gw_of (List.mem_of_getElem? (i := 1537) (by decide +kernel)) (by decide +kernel)
theorem mw_1538 : Cond.selects "RecordLake" ⟨"RecordLake", "file", "(II)I"⟩ ⟨"RecordLake", "file", "(II)I"⟩ ∈ gW := gw_of (List.mem_of_getElem? (i := 1538) (by decide +kernel)) (by decide +kernel)
theorem mw_1543 : Cond.codeWith ⟨"RecordLakeLaw", "power", "(LRecordLake;I)I"⟩ method_18_code 3 (some .int) [(0, 5, 8, 19)] ∈ gW := gw_of (List.mem_of_getElem? (i := 1543) (by decide +kernel)) (by decide +kernel)
theorem mw_1544 : Cond.methodLink "RecordLakeLaw" 67 ⟨"RecordLake", "power", "(I)V"⟩ ∈ gW := gw_of (List.mem_of_getElem? (i := 1544) (by decide +kernel)) (by decide +kernel)
theorem mw_1545 : Cond.instanceMethod ⟨"RecordLake", "power", "(I)V"⟩ ∈ gW := gw_of (List.mem_of_getElem? (i := 1545) (by decide +kernel)) (by decide +kernel)
theorem mw_1546 : Cond.selects "RecordLake" ⟨"RecordLake", "power", "(I)V"⟩ ⟨"RecordLake", "power", "(I)V"⟩ ∈ gW := gw_of (List.mem_of_getElem? (i := 1546) (by decide +kernel)) (by decide +kernel)
theorem mw_1551 : Cond.codeWith ⟨"RecordLakeLaw", "start", "(LRecordLake;[J)I"⟩ method_19_code 3 (some .int) [(0, 8, 11, 13)] ∈ gW := gw_of (List.mem_of_getElem? (i := 1551) (by decide +kernel)) (by decide +kernel)
theorem mw_1552 : Cond.methodLink "RecordLakeLaw" 70 ⟨"RecordLake", "start", "()I"⟩ ∈ gW := gw_of (List.mem_of_getElem? (i := 1552) (by decide +kernel)) (by decide +kernel)
theorem mw_1553 : Cond.instanceMethod ⟨"RecordLake", "start", "()I"⟩ ∈ gW := gw_of (List.mem_of_getElem? (i := 1553) (by decide +kernel)) (by decide +kernel)
theorem mw_1554 : Cond.selects "RecordLake" ⟨"RecordLake", "start", "()I"⟩ ⟨"RecordLake", "start", "()I"⟩ ∈ gW := gw_of (List.mem_of_getElem? (i := 1554) (by decide +kernel)) (by decide +kernel)
theorem nw_976 : Cond.castable "java/lang/IllegalStateException" "java/lang/IllegalStateException" ∈ nW := nw_of (List.mem_of_getElem? (i := 976) (by decide +kernel)) rfl
theorem nw_1082 : Cond.castable "java/lang/IndexOutOfBoundsException" "java/lang/IndexOutOfBoundsException" ∈ nW := nw_of (List.mem_of_getElem? (i := 1082) (by decide +kernel)) rfl
abbrev b_La_feed : ByteArray := method_3_code
abbrev y_La_feed : MethodName := ⟨"RecordLakeLaw", "feed", "(LRecordLake;IIIII[J)I"⟩
abbrev w_La_feed : List Cond := Cond.codeWith y_La_feed b_La_feed 8 (some .int) [(0, 16, 19, 13)] :: gW
theorem d_La_feed_0 : decode b_La_feed 0 = .ok (.aload 6, 2) := by decide +kernel
theorem d_La_feed_2 : decode b_La_feed 2 = .ok (.iconst 0, 1) := by decide +kernel
theorem d_La_feed_3 : decode b_La_feed 3 = .ok (.aload_n 0, 1) := by decide +kernel
theorem d_La_feed_4 : decode b_La_feed 4 = .ok (.iload_n 1, 1) := by decide +kernel
theorem d_La_feed_5 : decode b_La_feed 5 = .ok (.iload_n 2, 1) := by decide +kernel
theorem d_La_feed_6 : decode b_La_feed 6 = .ok (.iload_n 3, 1) := by decide +kernel
theorem d_La_feed_7 : decode b_La_feed 7 = .ok (.iload 4, 2) := by decide +kernel
theorem d_La_feed_9 : decode b_La_feed 9 = .ok (.iload 5, 2) := by decide +kernel
theorem d_La_feed_11 : decode b_La_feed 11 = .ok (.invokevirtual 7, 3) := by decide +kernel
theorem d_La_feed_14 : decode b_La_feed 14 = .ok (.i2l, 1) := by decide +kernel
theorem d_La_feed_15 : decode b_La_feed 15 = .ok (.lastore, 1) := by decide +kernel
theorem d_La_feed_16 : decode b_La_feed 16 = .ok (.goto 7, 3) := by decide +kernel
theorem d_La_feed_19 : decode b_La_feed 19 = .ok (.astore 7, 2) := by decide +kernel
theorem d_La_feed_21 : decode b_La_feed 21 = .ok (.iconst 1, 1) := by decide +kernel
theorem d_La_feed_22 : decode b_La_feed 22 = .ok (.ireturn, 1) := by decide +kernel
theorem d_La_feed_23 : decode b_La_feed 23 = .ok (.iconst 0, 1) := by decide +kernel
theorem d_La_feed_24 : decode b_La_feed 24 = .ok (.ireturn, 1) := by decide +kernel
abbrev b_La_size : ByteArray := method_16_code
abbrev y_La_size : MethodName := ⟨"RecordLakeLaw", "size", "(LRecordLake;I[J)I"⟩
abbrev w_La_size : List Cond := Cond.codeWith y_La_size b_La_size 4 (some .int) [(0, 9, 12, 19)] :: gW
theorem d_La_size_0 : decode b_La_size 0 = .ok (.aload_n 2, 1) := by decide +kernel
theorem d_La_size_1 : decode b_La_size 1 = .ok (.iconst 0, 1) := by decide +kernel
theorem d_La_size_2 : decode b_La_size 2 = .ok (.aload_n 0, 1) := by decide +kernel
theorem d_La_size_3 : decode b_La_size 3 = .ok (.iload_n 1, 1) := by decide +kernel
theorem d_La_size_4 : decode b_La_size 4 = .ok (.invokevirtual 61, 3) := by decide +kernel
theorem d_La_size_7 : decode b_La_size 7 = .ok (.i2l, 1) := by decide +kernel
theorem d_La_size_8 : decode b_La_size 8 = .ok (.lastore, 1) := by decide +kernel
theorem d_La_size_9 : decode b_La_size 9 = .ok (.goto 6, 3) := by decide +kernel
theorem d_La_size_12 : decode b_La_size 12 = .ok (.astore_n 3, 1) := by decide +kernel
theorem d_La_size_13 : decode b_La_size 13 = .ok (.iconst 1, 1) := by decide +kernel
theorem d_La_size_14 : decode b_La_size 14 = .ok (.ireturn, 1) := by decide +kernel
theorem d_La_size_15 : decode b_La_size 15 = .ok (.iconst 0, 1) := by decide +kernel
theorem d_La_size_16 : decode b_La_size 16 = .ok (.ireturn, 1) := by decide +kernel
abbrev b_La_letter : ByteArray := method_15_code
abbrev y_La_letter : MethodName := ⟨"RecordLakeLaw", "letter", "(LRecordLake;II[J)I"⟩
abbrev w_La_letter : List Cond := Cond.codeWith y_La_letter b_La_letter 5 (some .int) [(0, 10, 13, 25), (0, 10, 17, 19)] :: gW
theorem d_La_letter_0 : decode b_La_letter 0 = .ok (.aload_n 3, 1) := by decide +kernel
theorem d_La_letter_1 : decode b_La_letter 1 = .ok (.iconst 0, 1) := by decide +kernel
theorem d_La_letter_2 : decode b_La_letter 2 = .ok (.aload_n 0, 1) := by decide +kernel
theorem d_La_letter_3 : decode b_La_letter 3 = .ok (.iload_n 1, 1) := by decide +kernel
theorem d_La_letter_4 : decode b_La_letter 4 = .ok (.iload_n 2, 1) := by decide +kernel
theorem d_La_letter_5 : decode b_La_letter 5 = .ok (.invokevirtual 58, 3) := by decide +kernel
theorem d_La_letter_8 : decode b_La_letter 8 = .ok (.i2l, 1) := by decide +kernel
theorem d_La_letter_9 : decode b_La_letter 9 = .ok (.lastore, 1) := by decide +kernel
theorem d_La_letter_10 : decode b_La_letter 10 = .ok (.goto 11, 3) := by decide +kernel
theorem d_La_letter_13 : decode b_La_letter 13 = .ok (.astore 4, 2) := by decide +kernel
theorem d_La_letter_15 : decode b_La_letter 15 = .ok (.iconst 1, 1) := by decide +kernel
theorem d_La_letter_16 : decode b_La_letter 16 = .ok (.ireturn, 1) := by decide +kernel
theorem d_La_letter_17 : decode b_La_letter 17 = .ok (.astore 4, 2) := by decide +kernel
theorem d_La_letter_19 : decode b_La_letter 19 = .ok (.iconst 2, 1) := by decide +kernel
theorem d_La_letter_20 : decode b_La_letter 20 = .ok (.ireturn, 1) := by decide +kernel
theorem d_La_letter_21 : decode b_La_letter 21 = .ok (.iconst 0, 1) := by decide +kernel
theorem d_La_letter_22 : decode b_La_letter 22 = .ok (.ireturn, 1) := by decide +kernel
abbrev b_La_power : ByteArray := method_18_code
abbrev y_La_power : MethodName := ⟨"RecordLakeLaw", "power", "(LRecordLake;I)I"⟩
abbrev w_La_power : List Cond := Cond.codeWith y_La_power b_La_power 3 (some .int) [(0, 5, 8, 19)] :: gW
theorem d_La_power_0 : decode b_La_power 0 = .ok (.aload_n 0, 1) := by decide +kernel
theorem d_La_power_1 : decode b_La_power 1 = .ok (.iload_n 1, 1) := by decide +kernel
theorem d_La_power_2 : decode b_La_power 2 = .ok (.invokevirtual 67, 3) := by decide +kernel
theorem d_La_power_5 : decode b_La_power 5 = .ok (.goto 6, 3) := by decide +kernel
theorem d_La_power_8 : decode b_La_power 8 = .ok (.astore_n 2, 1) := by decide +kernel
theorem d_La_power_9 : decode b_La_power 9 = .ok (.iconst 1, 1) := by decide +kernel
theorem d_La_power_10 : decode b_La_power 10 = .ok (.ireturn, 1) := by decide +kernel
theorem d_La_power_11 : decode b_La_power 11 = .ok (.iconst 0, 1) := by decide +kernel
theorem d_La_power_12 : decode b_La_power 12 = .ok (.ireturn, 1) := by decide +kernel
abbrev b_La_start : ByteArray := method_19_code
abbrev y_La_start : MethodName := ⟨"RecordLakeLaw", "start", "(LRecordLake;[J)I"⟩
abbrev w_La_start : List Cond := Cond.codeWith y_La_start b_La_start 3 (some .int) [(0, 8, 11, 13)] :: gW
theorem d_La_start_0 : decode b_La_start 0 = .ok (.aload_n 1, 1) := by decide +kernel
theorem d_La_start_1 : decode b_La_start 1 = .ok (.iconst 0, 1) := by decide +kernel
theorem d_La_start_2 : decode b_La_start 2 = .ok (.aload_n 0, 1) := by decide +kernel
theorem d_La_start_3 : decode b_La_start 3 = .ok (.invokevirtual 70, 3) := by decide +kernel
theorem d_La_start_6 : decode b_La_start 6 = .ok (.i2l, 1) := by decide +kernel
theorem d_La_start_7 : decode b_La_start 7 = .ok (.lastore, 1) := by decide +kernel
theorem d_La_start_8 : decode b_La_start 8 = .ok (.goto 6, 3) := by decide +kernel
theorem d_La_start_11 : decode b_La_start 11 = .ok (.astore_n 2, 1) := by decide +kernel
theorem d_La_start_12 : decode b_La_start 12 = .ok (.iconst 1, 1) := by decide +kernel
theorem d_La_start_13 : decode b_La_start 13 = .ok (.ireturn, 1) := by decide +kernel
theorem d_La_start_14 : decode b_La_start 14 = .ok (.iconst 0, 1) := by decide +kernel
theorem d_La_start_15 : decode b_La_start 15 = .ok (.ireturn, 1) := by decide +kernel
abbrev b_La_look : ByteArray := method_6_code
abbrev y_La_look : MethodName := ⟨"RecordLakeLaw", "look", "(LRecordLake;II[J)I"⟩
abbrev w_La_look : List Cond := Cond.codeWith y_La_look b_La_look 5 (some .int) [(0, 10, 13, 25)] :: gW
theorem d_La_look_0 : decode b_La_look 0 = .ok (.aload_n 3, 1) := by decide +kernel
theorem d_La_look_1 : decode b_La_look 1 = .ok (.iconst 0, 1) := by decide +kernel
theorem d_La_look_2 : decode b_La_look 2 = .ok (.aload_n 0, 1) := by decide +kernel
theorem d_La_look_3 : decode b_La_look 3 = .ok (.iload_n 1, 1) := by decide +kernel
theorem d_La_look_4 : decode b_La_look 4 = .ok (.iload_n 2, 1) := by decide +kernel
theorem d_La_look_5 : decode b_La_look 5 = .ok (.invokevirtual 27, 3) := by decide +kernel
theorem d_La_look_8 : decode b_La_look 8 = .ok (.i2l, 1) := by decide +kernel
theorem d_La_look_9 : decode b_La_look 9 = .ok (.lastore, 1) := by decide +kernel
theorem d_La_look_10 : decode b_La_look 10 = .ok (.goto 7, 3) := by decide +kernel
theorem d_La_look_13 : decode b_La_look 13 = .ok (.astore 4, 2) := by decide +kernel
theorem d_La_look_15 : decode b_La_look 15 = .ok (.iconst 1, 1) := by decide +kernel
theorem d_La_look_16 : decode b_La_look 16 = .ok (.ireturn, 1) := by decide +kernel
theorem d_La_look_17 : decode b_La_look 17 = .ok (.iconst 0, 1) := by decide +kernel
theorem d_La_look_18 : decode b_La_look 18 = .ok (.ireturn, 1) := by decide +kernel
abbrev b_La_load : ByteArray := method_7_code
abbrev y_La_load : MethodName := ⟨"RecordLakeLaw", "load", "(LRecordLake;II[J)I"⟩
abbrev w_La_load : List Cond := Cond.codeWith y_La_load b_La_load 5 (some .int) [(0, 10, 13, 25)] :: gW
theorem d_La_load_0 : decode b_La_load 0 = .ok (.aload_n 3, 1) := by decide +kernel
theorem d_La_load_1 : decode b_La_load 1 = .ok (.iconst 0, 1) := by decide +kernel
theorem d_La_load_2 : decode b_La_load 2 = .ok (.aload_n 0, 1) := by decide +kernel
theorem d_La_load_3 : decode b_La_load 3 = .ok (.iload_n 1, 1) := by decide +kernel
theorem d_La_load_4 : decode b_La_load 4 = .ok (.iload_n 2, 1) := by decide +kernel
theorem d_La_load_5 : decode b_La_load 5 = .ok (.invokevirtual 31, 3) := by decide +kernel
theorem d_La_load_8 : decode b_La_load 8 = .ok (.i2l, 1) := by decide +kernel
theorem d_La_load_9 : decode b_La_load 9 = .ok (.lastore, 1) := by decide +kernel
theorem d_La_load_10 : decode b_La_load 10 = .ok (.goto 7, 3) := by decide +kernel
theorem d_La_load_13 : decode b_La_load 13 = .ok (.astore 4, 2) := by decide +kernel
theorem d_La_load_15 : decode b_La_load 15 = .ok (.iconst 1, 1) := by decide +kernel
theorem d_La_load_16 : decode b_La_load 16 = .ok (.ireturn, 1) := by decide +kernel
theorem d_La_load_17 : decode b_La_load 17 = .ok (.iconst 0, 1) := by decide +kernel
theorem d_La_load_18 : decode b_La_load 18 = .ok (.ireturn, 1) := by decide +kernel
abbrev b_La_print : ByteArray := method_14_code
abbrev y_La_print : MethodName := ⟨"RecordLakeLaw", "print", "(LRecordLake;II[J)I"⟩
abbrev w_La_print : List Cond := Cond.codeWith y_La_print b_La_print 5 (some .int) [(0, 9, 12, 25)] :: gW
theorem d_La_print_0 : decode b_La_print 0 = .ok (.aload_n 3, 1) := by decide +kernel
theorem d_La_print_1 : decode b_La_print 1 = .ok (.iconst 0, 1) := by decide +kernel
theorem d_La_print_2 : decode b_La_print 2 = .ok (.aload_n 0, 1) := by decide +kernel
theorem d_La_print_3 : decode b_La_print 3 = .ok (.iload_n 1, 1) := by decide +kernel
theorem d_La_print_4 : decode b_La_print 4 = .ok (.iload_n 2, 1) := by decide +kernel
theorem d_La_print_5 : decode b_La_print 5 = .ok (.invokevirtual 54, 3) := by decide +kernel
theorem d_La_print_8 : decode b_La_print 8 = .ok (.lastore, 1) := by decide +kernel
theorem d_La_print_9 : decode b_La_print 9 = .ok (.goto 7, 3) := by decide +kernel
theorem d_La_print_12 : decode b_La_print 12 = .ok (.astore 4, 2) := by decide +kernel
theorem d_La_print_14 : decode b_La_print 14 = .ok (.iconst 1, 1) := by decide +kernel
theorem d_La_print_15 : decode b_La_print 15 = .ok (.ireturn, 1) := by decide +kernel
theorem d_La_print_16 : decode b_La_print 16 = .ok (.iconst 0, 1) := by decide +kernel
theorem d_La_print_17 : decode b_La_print 17 = .ok (.ireturn, 1) := by decide +kernel
abbrev b_La_read : ByteArray := method_8_code
abbrev y_La_read : MethodName := ⟨"RecordLakeLaw", "read", "(LRecordLake;III[J)I"⟩
abbrev w_La_read : List Cond := Cond.codeWith y_La_read b_La_read 6 (some .int) [(0, 12, 15, 25)] :: gW
theorem d_La_read_0 : decode b_La_read 0 = .ok (.aload 4, 2) := by decide +kernel
theorem d_La_read_2 : decode b_La_read 2 = .ok (.iconst 0, 1) := by decide +kernel
theorem d_La_read_3 : decode b_La_read 3 = .ok (.aload_n 0, 1) := by decide +kernel
theorem d_La_read_4 : decode b_La_read 4 = .ok (.iload_n 1, 1) := by decide +kernel
theorem d_La_read_5 : decode b_La_read 5 = .ok (.iload_n 2, 1) := by decide +kernel
theorem d_La_read_6 : decode b_La_read 6 = .ok (.iload_n 3, 1) := by decide +kernel
theorem d_La_read_7 : decode b_La_read 7 = .ok (.invokevirtual 34, 3) := by decide +kernel
theorem d_La_read_10 : decode b_La_read 10 = .ok (.i2l, 1) := by decide +kernel
theorem d_La_read_11 : decode b_La_read 11 = .ok (.lastore, 1) := by decide +kernel
theorem d_La_read_12 : decode b_La_read 12 = .ok (.goto 7, 3) := by decide +kernel
theorem d_La_read_15 : decode b_La_read 15 = .ok (.astore 5, 2) := by decide +kernel
theorem d_La_read_17 : decode b_La_read 17 = .ok (.iconst 1, 1) := by decide +kernel
theorem d_La_read_18 : decode b_La_read 18 = .ok (.ireturn, 1) := by decide +kernel
theorem d_La_read_19 : decode b_La_read 19 = .ok (.iconst 0, 1) := by decide +kernel
theorem d_La_read_20 : decode b_La_read 20 = .ok (.ireturn, 1) := by decide +kernel
abbrev b_La_register : ByteArray := method_5_code
abbrev y_La_register : MethodName := ⟨"RecordLakeLaw", "register", "(LRecordLake;I[J)I"⟩
abbrev w_La_register : List Cond := Cond.codeWith y_La_register b_La_register 4 (some .int) [(0, 9, 12, 25)] :: gW
theorem d_La_register_0 : decode b_La_register 0 = .ok (.aload_n 2, 1) := by decide +kernel
theorem d_La_register_1 : decode b_La_register 1 = .ok (.iconst 0, 1) := by decide +kernel
theorem d_La_register_2 : decode b_La_register 2 = .ok (.aload_n 0, 1) := by decide +kernel
theorem d_La_register_3 : decode b_La_register 3 = .ok (.iload_n 1, 1) := by decide +kernel
theorem d_La_register_4 : decode b_La_register 4 = .ok (.invokevirtual 21, 3) := by decide +kernel
theorem d_La_register_7 : decode b_La_register 7 = .ok (.i2l, 1) := by decide +kernel
theorem d_La_register_8 : decode b_La_register 8 = .ok (.lastore, 1) := by decide +kernel
theorem d_La_register_9 : decode b_La_register 9 = .ok (.goto 6, 3) := by decide +kernel
theorem d_La_register_12 : decode b_La_register 12 = .ok (.astore_n 3, 1) := by decide +kernel
theorem d_La_register_13 : decode b_La_register 13 = .ok (.iconst 1, 1) := by decide +kernel
theorem d_La_register_14 : decode b_La_register 14 = .ok (.ireturn, 1) := by decide +kernel
theorem d_La_register_15 : decode b_La_register 15 = .ok (.iconst 0, 1) := by decide +kernel
theorem d_La_register_16 : decode b_La_register 16 = .ok (.ireturn, 1) := by decide +kernel
abbrev b_La_copy : ByteArray := method_9_code
abbrev y_La_copy : MethodName := ⟨"RecordLakeLaw", "copy", "(LRecordLake;III[J)I"⟩
abbrev w_La_copy : List Cond := Cond.codeWith y_La_copy b_La_copy 6 (some .int) [(0, 12, 15, 25)] :: gW
theorem d_La_copy_0 : decode b_La_copy 0 = .ok (.aload 4, 2) := by decide +kernel
theorem d_La_copy_2 : decode b_La_copy 2 = .ok (.iconst 0, 1) := by decide +kernel
theorem d_La_copy_3 : decode b_La_copy 3 = .ok (.aload_n 0, 1) := by decide +kernel
theorem d_La_copy_4 : decode b_La_copy 4 = .ok (.iload_n 1, 1) := by decide +kernel
theorem d_La_copy_5 : decode b_La_copy 5 = .ok (.iload_n 2, 1) := by decide +kernel
theorem d_La_copy_6 : decode b_La_copy 6 = .ok (.iload_n 3, 1) := by decide +kernel
theorem d_La_copy_7 : decode b_La_copy 7 = .ok (.invokevirtual 38, 3) := by decide +kernel
theorem d_La_copy_10 : decode b_La_copy 10 = .ok (.i2l, 1) := by decide +kernel
theorem d_La_copy_11 : decode b_La_copy 11 = .ok (.lastore, 1) := by decide +kernel
theorem d_La_copy_12 : decode b_La_copy 12 = .ok (.goto 7, 3) := by decide +kernel
theorem d_La_copy_15 : decode b_La_copy 15 = .ok (.astore 5, 2) := by decide +kernel
theorem d_La_copy_17 : decode b_La_copy 17 = .ok (.iconst 1, 1) := by decide +kernel
theorem d_La_copy_18 : decode b_La_copy 18 = .ok (.ireturn, 1) := by decide +kernel
theorem d_La_copy_19 : decode b_La_copy 19 = .ok (.iconst 0, 1) := by decide +kernel
theorem d_La_copy_20 : decode b_La_copy 20 = .ok (.ireturn, 1) := by decide +kernel
abbrev b_La_fits : ByteArray := method_12_code
abbrev y_La_fits : MethodName := ⟨"RecordLakeLaw", "fits", "(LRecordLake;IIII[J)I"⟩
abbrev w_La_fits : List Cond := Cond.codeWith y_La_fits b_La_fits 7 (some .int) [(0, 21, 24, 25)] :: gW
theorem d_La_fits_0 : decode b_La_fits 0 = .ok (.aload 5, 2) := by decide +kernel
theorem d_La_fits_2 : decode b_La_fits 2 = .ok (.iconst 0, 1) := by decide +kernel
theorem d_La_fits_3 : decode b_La_fits 3 = .ok (.aload_n 0, 1) := by decide +kernel
theorem d_La_fits_4 : decode b_La_fits 4 = .ok (.iload_n 1, 1) := by decide +kernel
theorem d_La_fits_5 : decode b_La_fits 5 = .ok (.iload_n 2, 1) := by decide +kernel
theorem d_La_fits_6 : decode b_La_fits 6 = .ok (.iload_n 3, 1) := by decide +kernel
theorem d_La_fits_7 : decode b_La_fits 7 = .ok (.iload 4, 2) := by decide +kernel
theorem d_La_fits_9 : decode b_La_fits 9 = .ok (.invokevirtual 47, 3) := by decide +kernel
theorem d_La_fits_12 : decode b_La_fits 12 = .ok (.ifCond .eq 7, 3) := by decide +kernel
theorem d_La_fits_15 : decode b_La_fits 15 = .ok (.lconst 1, 1) := by decide +kernel
theorem d_La_fits_16 : decode b_La_fits 16 = .ok (.goto 4, 3) := by decide +kernel
theorem d_La_fits_19 : decode b_La_fits 19 = .ok (.lconst 0, 1) := by decide +kernel
theorem d_La_fits_20 : decode b_La_fits 20 = .ok (.lastore, 1) := by decide +kernel
theorem d_La_fits_21 : decode b_La_fits 21 = .ok (.goto 7, 3) := by decide +kernel
theorem d_La_fits_24 : decode b_La_fits 24 = .ok (.astore 6, 2) := by decide +kernel
theorem d_La_fits_26 : decode b_La_fits 26 = .ok (.iconst 1, 1) := by decide +kernel
theorem d_La_fits_27 : decode b_La_fits 27 = .ok (.ireturn, 1) := by decide +kernel
theorem d_La_fits_28 : decode b_La_fits 28 = .ok (.iconst 0, 1) := by decide +kernel
theorem d_La_fits_29 : decode b_La_fits 29 = .ok (.ireturn, 1) := by decide +kernel
abbrev b_La_count : ByteArray := method_13_code
abbrev y_La_count : MethodName := ⟨"RecordLakeLaw", "count", "(LRecordLake;II[J)I"⟩
abbrev w_La_count : List Cond := Cond.codeWith y_La_count b_La_count 5 (some .int) [(0, 10, 13, 25), (0, 10, 17, 19)] :: gW
theorem d_La_count_0 : decode b_La_count 0 = .ok (.aload_n 3, 1) := by decide +kernel
theorem d_La_count_1 : decode b_La_count 1 = .ok (.iconst 0, 1) := by decide +kernel
theorem d_La_count_2 : decode b_La_count 2 = .ok (.aload_n 0, 1) := by decide +kernel
theorem d_La_count_3 : decode b_La_count 3 = .ok (.iload_n 1, 1) := by decide +kernel
theorem d_La_count_4 : decode b_La_count 4 = .ok (.iload_n 2, 1) := by decide +kernel
theorem d_La_count_5 : decode b_La_count 5 = .ok (.invokevirtual 51, 3) := by decide +kernel
theorem d_La_count_8 : decode b_La_count 8 = .ok (.i2l, 1) := by decide +kernel
theorem d_La_count_9 : decode b_La_count 9 = .ok (.lastore, 1) := by decide +kernel
theorem d_La_count_10 : decode b_La_count 10 = .ok (.goto 11, 3) := by decide +kernel
theorem d_La_count_13 : decode b_La_count 13 = .ok (.astore 4, 2) := by decide +kernel
theorem d_La_count_15 : decode b_La_count 15 = .ok (.iconst 1, 1) := by decide +kernel
theorem d_La_count_16 : decode b_La_count 16 = .ok (.ireturn, 1) := by decide +kernel
theorem d_La_count_17 : decode b_La_count 17 = .ok (.astore 4, 2) := by decide +kernel
theorem d_La_count_19 : decode b_La_count 19 = .ok (.iconst 2, 1) := by decide +kernel
theorem d_La_count_20 : decode b_La_count 20 = .ok (.ireturn, 1) := by decide +kernel
theorem d_La_count_21 : decode b_La_count 21 = .ok (.iconst 0, 1) := by decide +kernel
theorem d_La_count_22 : decode b_La_count 22 = .ok (.ireturn, 1) := by decide +kernel
abbrev b_La_clear : ByteArray := method_11_code
abbrev y_La_clear : MethodName := ⟨"RecordLakeLaw", "clear", "(LRecordLake;I[J)I"⟩
abbrev w_La_clear : List Cond := Cond.codeWith y_La_clear b_La_clear 4 (some .int) [(0, 9, 12, 25)] :: gW
theorem d_La_clear_0 : decode b_La_clear 0 = .ok (.aload_n 2, 1) := by decide +kernel
theorem d_La_clear_1 : decode b_La_clear 1 = .ok (.iconst 0, 1) := by decide +kernel
theorem d_La_clear_2 : decode b_La_clear 2 = .ok (.aload_n 0, 1) := by decide +kernel
theorem d_La_clear_3 : decode b_La_clear 3 = .ok (.iload_n 1, 1) := by decide +kernel
theorem d_La_clear_4 : decode b_La_clear 4 = .ok (.invokevirtual 44, 3) := by decide +kernel
theorem d_La_clear_7 : decode b_La_clear 7 = .ok (.i2l, 1) := by decide +kernel
theorem d_La_clear_8 : decode b_La_clear 8 = .ok (.lastore, 1) := by decide +kernel
theorem d_La_clear_9 : decode b_La_clear 9 = .ok (.goto 6, 3) := by decide +kernel
theorem d_La_clear_12 : decode b_La_clear 12 = .ok (.astore_n 3, 1) := by decide +kernel
theorem d_La_clear_13 : decode b_La_clear 13 = .ok (.iconst 1, 1) := by decide +kernel
theorem d_La_clear_14 : decode b_La_clear 14 = .ok (.ireturn, 1) := by decide +kernel
theorem d_La_clear_15 : decode b_La_clear 15 = .ok (.iconst 0, 1) := by decide +kernel
theorem d_La_clear_16 : decode b_La_clear 16 = .ok (.ireturn, 1) := by decide +kernel
abbrev b_La_compact : ByteArray := method_10_code
abbrev y_La_compact : MethodName := ⟨"RecordLakeLaw", "compact", "(LRecordLake;I[J)I"⟩
abbrev w_La_compact : List Cond := Cond.codeWith y_La_compact b_La_compact 4 (some .int) [(0, 9, 12, 25)] :: gW
theorem d_La_compact_0 : decode b_La_compact 0 = .ok (.aload_n 2, 1) := by decide +kernel
theorem d_La_compact_1 : decode b_La_compact 1 = .ok (.iconst 0, 1) := by decide +kernel
theorem d_La_compact_2 : decode b_La_compact 2 = .ok (.aload_n 0, 1) := by decide +kernel
theorem d_La_compact_3 : decode b_La_compact 3 = .ok (.iload_n 1, 1) := by decide +kernel
theorem d_La_compact_4 : decode b_La_compact 4 = .ok (.invokevirtual 41, 3) := by decide +kernel
theorem d_La_compact_7 : decode b_La_compact 7 = .ok (.i2l, 1) := by decide +kernel
theorem d_La_compact_8 : decode b_La_compact 8 = .ok (.lastore, 1) := by decide +kernel
theorem d_La_compact_9 : decode b_La_compact 9 = .ok (.goto 6, 3) := by decide +kernel
theorem d_La_compact_12 : decode b_La_compact 12 = .ok (.astore_n 3, 1) := by decide +kernel
theorem d_La_compact_13 : decode b_La_compact 13 = .ok (.iconst 1, 1) := by decide +kernel
theorem d_La_compact_14 : decode b_La_compact 14 = .ok (.ireturn, 1) := by decide +kernel
theorem d_La_compact_15 : decode b_La_compact 15 = .ok (.iconst 0, 1) := by decide +kernel
theorem d_La_compact_16 : decode b_La_compact 16 = .ok (.ireturn, 1) := by decide +kernel
abbrev b_La_file : ByteArray := method_17_code
abbrev y_La_file : MethodName := ⟨"RecordLakeLaw", "file", "(LRecordLake;II[J)I"⟩
abbrev w_La_file : List Cond := Cond.codeWith y_La_file b_La_file 5 (some .int) [(0, 10, 13, 25), (0, 10, 17, 19)] :: gW
theorem d_La_file_0 : decode b_La_file 0 = .ok (.aload_n 3, 1) := by decide +kernel
theorem d_La_file_1 : decode b_La_file 1 = .ok (.iconst 0, 1) := by decide +kernel
theorem d_La_file_2 : decode b_La_file 2 = .ok (.aload_n 0, 1) := by decide +kernel
theorem d_La_file_3 : decode b_La_file 3 = .ok (.iload_n 1, 1) := by decide +kernel
theorem d_La_file_4 : decode b_La_file 4 = .ok (.iload_n 2, 1) := by decide +kernel
theorem d_La_file_5 : decode b_La_file 5 = .ok (.invokevirtual 64, 3) := by decide +kernel
theorem d_La_file_8 : decode b_La_file 8 = .ok (.i2l, 1) := by decide +kernel
theorem d_La_file_9 : decode b_La_file 9 = .ok (.lastore, 1) := by decide +kernel
theorem d_La_file_10 : decode b_La_file 10 = .ok (.goto 11, 3) := by decide +kernel
theorem d_La_file_13 : decode b_La_file 13 = .ok (.astore 4, 2) := by decide +kernel
theorem d_La_file_15 : decode b_La_file 15 = .ok (.iconst 1, 1) := by decide +kernel
theorem d_La_file_16 : decode b_La_file 16 = .ok (.ireturn, 1) := by decide +kernel
theorem d_La_file_17 : decode b_La_file 17 = .ok (.astore 4, 2) := by decide +kernel
theorem d_La_file_19 : decode b_La_file 19 = .ok (.iconst 2, 1) := by decide +kernel
theorem d_La_file_20 : decode b_La_file 20 = .ok (.ireturn, 1) := by decide +kernel
theorem d_La_file_21 : decode b_La_file 21 = .ok (.iconst 0, 1) := by decide +kernel
theorem d_La_file_22 : decode b_La_file 22 = .ok (.ireturn, 1) := by decide +kernel
