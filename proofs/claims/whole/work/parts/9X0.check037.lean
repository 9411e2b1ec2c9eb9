/-! the methods are right -/
theorem v_205_x : cdCk 12 q_205 k_205 = true := (cdCk_cut 100 _ v_205_0 v_205_1)
theorem v_205 : mF aTB aSh0 aFk0 q_205 := mCk_ok (o := 12) (w := (1899, 1898, 10108, 14)) tabF_ok (mCk_of (by decide +kernel) v_205_x)
theorem v_206 : mF aTB aSh0 aFk0 q_206 := mCk_ok (o := 12) (w := (1959, 1958, 10109, 14)) tabF_ok (by decide +kernel)
theorem v_207 : mF aTB aSh0 aFk0 q_207 := mCk_ok (o := 12) (w := (1962, 1961, 0, 14)) tabF_ok (by decide +kernel)
theorem v_208 : mF aTB aSh0 aFk0 q_208 := mCk_ok (o := 12) (w := (1966, 1965, 10110, 14)) tabF_ok (by decide +kernel)
theorem v_209 : mF aTB aSh0 aFk0 q_209 := mCk_ok (o := 12) (w := (1970, 1969, 10111, 14)) tabF_ok (by decide +kernel)
