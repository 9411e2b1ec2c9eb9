/-! the methods are right -/
theorem v_217 : mF aTB aSh0 aFk0 q_217 := mCk_ok (o := 12) (w := (2014, 2013, 10119, 14)) tabF_ok (by decide +kernel)
theorem v_218 : mF aTB aSh0 aFk0 q_218 := mCk_ok (o := 12) (w := (2018, 2017, 10120, 14)) tabF_ok (by decide +kernel)
theorem v_219 : mF aTB aSh0 aFk0 q_219 := mCk_ok (o := 12) (w := (2023, 2022, 10121, 14)) tabF_ok (by decide +kernel)
theorem v_220 : mF aTB aSh0 aFk0 q_220 := mCk_ok (o := 12) (w := (2034, 2033, 10122, 14)) tabF_ok (by decide +kernel)
theorem v_221 : mF aTB aSh0 aFk0 q_221 := mCk_ok (o := 12) (w := (2039, 2038, 10123, 14)) tabF_ok (by decide +kernel)
theorem v_222 : mF aTB aSh0 aFk0 q_222 := mCk_ok (o := 12) (w := (2045, 2044, 10124, 14)) tabF_ok (by decide +kernel)
