/-! the methods are right -/
theorem v_227_x : cdCk 12 q_227 k_227 = true := (cdCk_cut 100 _ v_227_0 v_227_1)
theorem v_227 : mF aTB aSh0 aFk0 q_227 := mCk_ok (o := 12) (w := (2068, 2067, 10129, 14)) tabF_ok (mCk_of (by decide +kernel) v_227_x)
theorem v_228 : mF aTB aSh0 aFk0 q_228 := mCk_ok (o := 12) (w := (2074, 2073, 10130, 14)) tabF_ok (by decide +kernel)
