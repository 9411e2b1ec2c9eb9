/-! the methods are right -/
theorem v_292 : mF aTB aSh0 aFk0 q_292 := mCk_ok (o := 13) (w := (2342, 2340, 2341, 13)) tabF_ok (by decide +kernel)
theorem v_293 : mF aTB aSh0 aFk0 q_293 := mCk_ok (o := 13) (w := (2346, 2345, 10175, 13)) tabF_ok (by decide +kernel)
theorem v_294 : mF aTB aSh0 aFk0 q_294 := mCk_ok (o := 12) (w := (2350, 2348, 2349, 14)) tabF_ok (by decide +kernel)
theorem v_295 : mF aTB aSh0 aFk0 q_295 := mCk_ok (o := 13) (w := (2356, 2354, 2355, 13)) tabF_ok (by decide +kernel)
theorem v_296 : mF aTB aSh0 aFk0 q_296 := mCk_ok (o := 13) (w := (2360, 2358, 2359, 13)) tabF_ok (by decide +kernel)
theorem v_297 : mF aTB aSh0 aFk0 q_297 := mCk_ok (o := 13) (w := (2364, 2362, 2363, 13)) tabF_ok (by decide +kernel)
theorem v_298 : mF aTB aSh0 aFk0 q_298 := mCk_ok (o := 13) (w := (2368, 2366, 2367, 13)) tabF_ok (by decide +kernel)
theorem v_299 : mF aTB aSh0 aFk0 q_299 := mCk_ok (o := 13) (w := (2372, 2370, 2371, 13)) tabF_ok (by decide +kernel)
