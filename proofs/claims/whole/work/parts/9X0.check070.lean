/-! the methods are right -/
theorem v_246 : mF aTB aSh0 aFk0 q_246 := mCk_ok (o := 13) (w := (2153, 2152, 0, 13)) tabF_ok (by decide +kernel)
theorem v_247 : mF aTB aSh0 aFk0 q_247 := mCk_ok (o := 13) (w := (2157, 2156, 10141, 13)) tabF_ok (by decide +kernel)
theorem v_248 : mF aTB aSh0 aFk0 q_248 := mCk_ok (o := 13) (w := (2161, 2160, 10142, 13)) tabF_ok (by decide +kernel)
theorem v_249 : mF aTB aSh0 aFk0 q_249 := mCk_ok (o := 13) (w := (2165, 2163, 2164, 13)) tabF_ok (by decide +kernel)
theorem v_250 : mF aTB aSh0 aFk0 q_250 := mCk_ok (o := 13) (w := (2169, 2168, 10143, 13)) tabF_ok (by decide +kernel)
theorem v_251 : mF aTB aSh0 aFk0 q_251 := mCk_ok (o := 13) (w := (2173, 2172, 10144, 13)) tabF_ok (by decide +kernel)
