/-! the methods are right -/
theorem v_200 : mF aTB aSh0 aFk0 q_200 := mCk_ok (o := 12) (w := (1877, 1876, 10103, 14)) tabF_ok (by decide +kernel)
theorem v_201 : mF aTB aSh0 aFk0 q_201 := mCk_ok (o := 12) (w := (1881, 1880, 10104, 14)) tabF_ok (by decide +kernel)
