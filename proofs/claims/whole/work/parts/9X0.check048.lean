/-! the methods are right -/
theorem v_220_x : cdCk 12 q_220 k_220 = true := (cdCk_cut 100 _ v_220_0 v_220_1)
theorem v_220 : mF aTB aSh0 aFk0 q_220 := mCk_ok (o := 12) (w := (2034, 2033, 10122, 14)) tabF_ok (mCk_of (by decide +kernel) v_220_x)
theorem v_221 : mF aTB aSh0 aFk0 q_221 := mCk_ok (o := 12) (w := (2039, 2038, 10123, 14)) tabF_ok (by decide +kernel)
