/-! the methods are right -/
theorem v_203 : mF aTB aSh0 aFk0 q_203 := mCk_ok (o := 12) (w := (1891, 1890, 10106, 14)) tabF_ok (by decide +kernel)
theorem v_204 : mF aTB aSh0 aFk0 q_204 := mCk_ok (o := 12) (w := (1895, 1894, 10107, 14)) tabF_ok (by decide +kernel)
theorem v_205 : mF aTB aSh0 aFk0 q_205 := mCk_ok (o := 12) (w := (1899, 1898, 10108, 14)) tabF_ok (by decide +kernel)
theorem v_206 : mF aTB aSh0 aFk0 q_206 := mCk_ok (o := 12) (w := (1959, 1958, 10109, 14)) tabF_ok (by decide +kernel)
theorem v_207 : mF aTB aSh0 aFk0 q_207 := mCk_ok (o := 12) (w := (1962, 1961, 0, 14)) tabF_ok (by decide +kernel)
theorem v_208 : mF aTB aSh0 aFk0 q_208 := mCk_ok (o := 12) (w := (1966, 1965, 10110, 14)) tabF_ok (by decide +kernel)
theorem v_209 : mF aTB aSh0 aFk0 q_209 := mCk_ok (o := 12) (w := (1970, 1969, 10111, 14)) tabF_ok (by decide +kernel)
theorem v_210 : mF aTB aSh0 aFk0 q_210 := mCk_ok (o := 12) (w := (1974, 1973, 10112, 14)) tabF_ok (by decide +kernel)
