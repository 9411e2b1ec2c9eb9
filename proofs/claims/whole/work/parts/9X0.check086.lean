/-! the methods are right -/
theorem v_277_x : cdCk 13 q_277 k_277 = true := (cdCk_cut 100 _ v_277_0 (cdCk_cut 100 _ v_277_1 (by rw [List.drop_drop]; exact v_277_2)))
theorem v_277 : mF aTB aSh0 aFk0 q_277 := mCk_ok (o := 13) (w := (2281, 2280, 10164, 13)) tabF_ok (mCk_of (by decide +kernel) v_277_x)
theorem v_278 : mF aTB aSh0 aFk0 q_278 := mCk_ok (o := 13) (w := (2285, 2284, 10165, 13)) tabF_ok (by decide +kernel)
theorem v_279 : mF aTB aSh0 aFk0 q_279 := mCk_ok (o := 13) (w := (2289, 2288, 10166, 13)) tabF_ok (by decide +kernel)
theorem v_280 : mF aTB aSh0 aFk0 q_280 := mCk_ok (o := 13) (w := (2293, 2292, 10167, 13)) tabF_ok (by decide +kernel)
theorem v_281 : mF aTB aSh0 aFk0 q_281 := mCk_ok (o := 13) (w := (2297, 2296, 10168, 13)) tabF_ok (by decide +kernel)
