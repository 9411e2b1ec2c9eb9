/-! the methods are right -/
theorem v_282 : mF aTB aSh0 aFk0 q_282 := mCk_ok (o := 13) (w := (2301, 2300, 10169, 13)) tabF_ok (by decide +kernel)
theorem v_283 : mF aTB aSh0 aFk0 q_283 := mCk_ok (o := 13) (w := (2305, 2304, 10170, 13)) tabF_ok (by decide +kernel)
theorem v_284 : mF aTB aSh0 aFk0 q_284 := mCk_ok (o := 13) (w := (2310, 2308, 2309, 13)) tabF_ok (by decide +kernel)
theorem v_285 : mF aTB aSh0 aFk0 q_285 := mCk_ok (o := 13) (w := (2314, 2313, 10171, 13)) tabF_ok (by decide +kernel)
