/-! the methods are right -/
theorem v_210_x : cdCk 12 q_210 k_210 = true := (cdCk_cut 100 _ v_210_0 v_210_1)
theorem v_210 : mF aTB aSh0 aFk0 q_210 := mCk_ok (o := 12) (w := (1974, 1973, 10112, 14)) tabF_ok (mCk_of (by decide +kernel) v_210_x)
