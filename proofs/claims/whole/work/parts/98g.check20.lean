/-! the methods are right -/
theorem v_223 : mF aTB aSh0 aFk0 q_223 := mCk_ok (o := 12) (w := (2051, 2050, 10125, 14)) tabF_ok (by decide +kernel)
theorem v_224 : mF aTB aSh0 aFk0 q_224 := mCk_ok (o := 12) (w := (2055, 2054, 10126, 14)) tabF_ok (by decide +kernel)
theorem v_225 : mF aTB aSh0 aFk0 q_225 := mCk_ok (o := 12) (w := (2060, 2059, 10127, 14)) tabF_ok (by decide +kernel)
