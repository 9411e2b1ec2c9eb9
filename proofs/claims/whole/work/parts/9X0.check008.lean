/-! the methods are right -/
theorem v_53 : mF aTB aSh0 aFk0 q_53 := mCk_ok (o := 3) (w := (828, 827, 10031, 5)) tabF_ok (by decide +kernel)
