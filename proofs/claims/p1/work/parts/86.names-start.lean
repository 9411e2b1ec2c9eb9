/-! names -/
theorem mw_28 : Cond.classLink "RecordLakeLaw" 8 "RecordLake" ∈ gW := gw_of (List.mem_of_getElem? (i := 28) (by decide +kernel)) (by decide +kernel)
theorem mw_30 : Cond.methodLink "RecordLakeLaw" 74 ⟨"RecordLake", "<init>", "()V"⟩ ∈ gW := gw_of (List.mem_of_getElem? (i := 30) (by decide +kernel)) (by decide +kernel)
theorem mw_31 : Cond.instanceMethod ⟨"RecordLake", "<init>", "()V"⟩ ∈ gW := gw_of (List.mem_of_getElem? (i := 31) (by decide +kernel)) (by decide +kernel)
theorem mw_1576 : Cond.classLink "RecordLakeLaw" 75 "RecordLakeModel" ∈ gW := gw_of (List.mem_of_getElem? (i := 1576) (by decide +kernel)) (by decide +kernel)
theorem mw_1578 : Cond.methodLink "RecordLakeLaw" 77 ⟨"RecordLakeModel", "<init>", "()V"⟩ ∈ gW := gw_of (List.mem_of_getElem? (i := 1578) (by decide +kernel)) (by decide +kernel)
theorem mw_1579 : Cond.instanceMethod ⟨"RecordLakeModel", "<init>", "()V"⟩ ∈ gW := gw_of (List.mem_of_getElem? (i := 1579) (by decide +kernel)) (by decide +kernel)
