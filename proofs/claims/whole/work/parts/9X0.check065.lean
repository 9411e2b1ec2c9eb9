/-! the methods are right -/
theorem v_236 : mF aTB aSh0 aFk0 q_236 := mCk_ok (o := 13) (w := (2117, 2116, 10136, 13)) tabF_ok (by decide +kernel)
theorem v_237 : mF aTB aSh0 aFk0 q_237 := mCk_ok (o := 13) (w := (2121, 2120, 10137, 13)) tabF_ok (by decide +kernel)
theorem v_238 : mF aTB aSh0 aFk0 q_238 := mCk_ok (o := 13) (w := (2125, 2124, 10138, 13)) tabF_ok (by decide +kernel)
