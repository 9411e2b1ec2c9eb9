/-! names -/
theorem mw_29 : Cond.instantiable "RecordLake" 17 ∈ gW := gw_of (List.mem_of_getElem? (i := 29) (by decide +kernel)) (by decide +kernel)
theorem mw_1577 : Cond.instantiable "RecordLakeModel" 35 ∈ gW := gw_of (List.mem_of_getElem? (i := 1577) (by decide +kernel)) (by decide +kernel)
