/-! the methods are right -/
theorem v_195 : mF aTB aSh0 aFk0 q_195 := mCk_ok (o := 12) (w := (1856, 1854, 1855, 14)) tabF_ok (by decide +kernel)
theorem v_196 : mF aTB aSh0 aFk0 q_196 := mCk_ok (o := 12) (w := (1861, 1860, 10099, 14)) tabF_ok (by decide +kernel)
theorem v_197 : mF aTB aSh0 aFk0 q_197 := mCk_ok (o := 12) (w := (1865, 1864, 10100, 14)) tabF_ok (by decide +kernel)
theorem v_198 : mF aTB aSh0 aFk0 q_198 := mCk_ok (o := 12) (w := (1869, 1868, 10101, 14)) tabF_ok (by decide +kernel)
theorem v_199 : mF aTB aSh0 aFk0 q_199 := mCk_ok (o := 12) (w := (1873, 1872, 10102, 14)) tabF_ok (by decide +kernel)
