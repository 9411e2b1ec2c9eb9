/-! the methods are right -/
theorem v_284_x : cdCk 13 q_284 k_284 = true := (cdCk_cut 100 _ v_284_0 v_284_1)
theorem v_284 : mF aTB aSh0 aFk0 q_284 := mCk_ok (o := 13) (w := (2310, 2308, 2309, 13)) tabF_ok (mCk_of (by decide +kernel) v_284_x)
theorem v_285 : mF aTB aSh0 aFk0 q_285 := mCk_ok (o := 13) (w := (2314, 2313, 10171, 13)) tabF_ok (by decide +kernel)
theorem v_286 : mF aTB aSh0 aFk0 q_286 := mCk_ok (o := 13) (w := (2318, 2316, 2317, 13)) tabF_ok (by decide +kernel)
theorem v_287 : mF aTB aSh0 aFk0 q_287 := mCk_ok (o := 13) (w := (2322, 2321, 10172, 13)) tabF_ok (by decide +kernel)
