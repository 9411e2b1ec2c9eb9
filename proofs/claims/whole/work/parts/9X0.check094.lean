/-! the methods are right -/
theorem v_288 : mF aTB aSh0 aFk0 q_288 := mCk_ok (o := 13) (w := (2326, 2325, 10173, 13)) tabF_ok (by decide +kernel)
theorem v_289 : mF aTB aSh0 aFk0 q_289 := mCk_ok (o := 13) (w := (2330, 2329, 10174, 13)) tabF_ok (by decide +kernel)
theorem v_290 : mF aTB aSh0 aFk0 q_290 := mCk_ok (o := 13) (w := (2334, 2332, 2333, 13)) tabF_ok (by decide +kernel)
theorem v_291 : mF aTB aSh0 aFk0 q_291 := mCk_ok (o := 13) (w := (2338, 2336, 2337, 13)) tabF_ok (by decide +kernel)
