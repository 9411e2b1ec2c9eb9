/-! the methods are right -/
theorem v_261 : mF aTB aSh0 aFk0 q_261 := mCk_ok (o := 12) (w := (2217, 2216, 10154, 14)) tabF_ok (by decide +kernel)
