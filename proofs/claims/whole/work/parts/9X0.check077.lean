/-! the methods are right -/
theorem v_262_x : cdCk 13 q_262 k_262 = true := (cdCk_cut 100 _ v_262_0 v_262_1)
theorem v_262 : mF aTB aSh0 aFk0 q_262 := mCk_ok (o := 13) (w := (2221, 2220, 10155, 13)) tabF_ok (mCk_of (by decide +kernel) v_262_x)
theorem v_263 : mF aTB aSh0 aFk0 q_263 := mCk_ok (o := 13) (w := (2227, 2226, 10156, 13)) tabF_ok (by decide +kernel)
theorem v_264 : mF aTB aSh0 aFk0 q_264 := mCk_ok (o := 13) (w := (2231, 2230, 10157, 13)) tabF_ok (by decide +kernel)
theorem v_265 : mF aTB aSh0 aFk0 q_265 := mCk_ok (o := 13) (w := (2234, 2233, 0, 13)) tabF_ok (by decide +kernel)
theorem v_266 : mF aTB aSh0 aFk0 q_266 := mCk_ok (o := 13) (w := (2238, 2236, 2237, 13)) tabF_ok (by decide +kernel)
theorem v_267 : mF aTB aSh0 aFk0 q_267 := mCk_ok (o := 13) (w := (2242, 2240, 2241, 13)) tabF_ok (by decide +kernel)
