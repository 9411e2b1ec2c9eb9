/-! the methods are right -/
theorem v_270_x : cdCk 13 q_270 k_270 = true := (cdCk_cut 100 _ v_270_0 v_270_1)
theorem v_270 : mF aTB aSh0 aFk0 q_270 := mCk_ok (o := 13) (w := (2253, 2251, 2252, 13)) tabF_ok (mCk_of (by decide +kernel) v_270_x)
theorem v_271 : mF aTB aSh0 aFk0 q_271 := mCk_ok (o := 13) (w := (2257, 2256, 10158, 13)) tabF_ok (by decide +kernel)
theorem v_272 : mF aTB aSh0 aFk0 q_272 := mCk_ok (o := 13) (w := (2261, 2260, 10159, 13)) tabF_ok (by decide +kernel)
theorem v_273 : mF aTB aSh0 aFk0 q_273 := mCk_ok (o := 13) (w := (2265, 2264, 10160, 13)) tabF_ok (by decide +kernel)
theorem v_274 : mF aTB aSh0 aFk0 q_274 := mCk_ok (o := 13) (w := (2269, 2268, 10161, 13)) tabF_ok (by decide +kernel)
