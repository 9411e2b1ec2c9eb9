/-! the methods are right -/
theorem v_300 : mF aTB aSh0 aFk0 q_300 := mCk_ok (o := 13) (w := (2376, 2374, 2375, 13)) tabF_ok (by decide +kernel)
