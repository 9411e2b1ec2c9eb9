/-! the methods are right -/
theorem v_224_x : cdCk 12 q_224 k_224 = true := (cdCk_cut 100 _ v_224_0 v_224_1)
theorem v_224 : mF aTB aSh0 aFk0 q_224 := mCk_ok (o := 12) (w := (2055, 2054, 10126, 14)) tabF_ok (mCk_of (by decide +kernel) v_224_x)
