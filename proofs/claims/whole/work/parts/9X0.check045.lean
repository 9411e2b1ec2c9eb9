/-! the methods are right -/
theorem v_216 : mF aTB aSh0 aFk0 q_216 := mCk_ok (o := 12) (w := (2010, 2009, 10118, 14)) tabF_ok (by decide +kernel)
theorem v_217 : mF aTB aSh0 aFk0 q_217 := mCk_ok (o := 12) (w := (2014, 2013, 10119, 14)) tabF_ok (by decide +kernel)
theorem v_218 : mF aTB aSh0 aFk0 q_218 := mCk_ok (o := 12) (w := (2018, 2017, 10120, 14)) tabF_ok (by decide +kernel)
theorem v_219 : mF aTB aSh0 aFk0 q_219 := mCk_ok (o := 12) (w := (2023, 2022, 10121, 14)) tabF_ok (by decide +kernel)
