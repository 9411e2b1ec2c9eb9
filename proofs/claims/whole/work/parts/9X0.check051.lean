/-! the methods are right -/
theorem v_222_x : cdCk 12 q_222 k_222 = true := (cdCk_cut 100 _ v_222_0 v_222_1)
theorem v_222 : mF aTB aSh0 aFk0 q_222 := mCk_ok (o := 12) (w := (2045, 2044, 10124, 14)) tabF_ok (mCk_of (by decide +kernel) v_222_x)
theorem v_223 : mF aTB aSh0 aFk0 q_223 := mCk_ok (o := 12) (w := (2051, 2050, 10125, 14)) tabF_ok (by decide +kernel)
