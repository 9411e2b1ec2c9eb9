/-! the methods are right -/
theorem v_275 : mF aTB aSh0 aFk0 q_275 := mCk_ok (o := 13) (w := (2273, 2272, 10162, 13)) tabF_ok (by decide +kernel)
theorem v_276 : mF aTB aSh0 aFk0 q_276 := mCk_ok (o := 13) (w := (2277, 2276, 10163, 13)) tabF_ok (by decide +kernel)
