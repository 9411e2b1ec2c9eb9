/-! the methods are right -/
theorem v_225_x : cdCk 12 q_225 k_225 = true := (cdCk_cut 100 _ v_225_0 (cdCk_cut 100 _ v_225_1 (by rw [List.drop_drop]; exact v_225_2)))
theorem v_225 : mF aTB aSh0 aFk0 q_225 := mCk_ok (o := 12) (w := (2060, 2059, 10127, 14)) tabF_ok (mCk_of (by decide +kernel) v_225_x)
theorem v_226 : mF aTB aSh0 aFk0 q_226 := mCk_ok (o := 12) (w := (2064, 2063, 10128, 14)) tabF_ok (by decide +kernel)
