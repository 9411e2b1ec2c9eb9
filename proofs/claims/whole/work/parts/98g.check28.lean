/-! the methods are right -/
theorem v_286 : mF aTB aSh0 aFk0 q_286 := mCk_ok (o := 13) (w := (2318, 2316, 2317, 13)) tabF_ok (by decide +kernel)
theorem v_287 : mF aTB aSh0 aFk0 q_287 := mCk_ok (o := 13) (w := (2322, 2321, 10172, 13)) tabF_ok (by decide +kernel)
theorem v_288 : mF aTB aSh0 aFk0 q_288 := mCk_ok (o := 13) (w := (2326, 2325, 10173, 13)) tabF_ok (by decide +kernel)
theorem v_289 : mF aTB aSh0 aFk0 q_289 := mCk_ok (o := 13) (w := (2330, 2329, 10174, 13)) tabF_ok (by decide +kernel)
theorem v_290 : mF aTB aSh0 aFk0 q_290 := mCk_ok (o := 13) (w := (2334, 2332, 2333, 13)) tabF_ok (by decide +kernel)
theorem v_291 : mF aTB aSh0 aFk0 q_291 := mCk_ok (o := 13) (w := (2338, 2336, 2337, 13)) tabF_ok (by decide +kernel)
theorem v_292 : mF aTB aSh0 aFk0 q_292 := mCk_ok (o := 13) (w := (2342, 2340, 2341, 13)) tabF_ok (by decide +kernel)
theorem v_293 : mF aTB aSh0 aFk0 q_293 := mCk_ok (o := 13) (w := (2346, 2345, 10175, 13)) tabF_ok (by decide +kernel)
