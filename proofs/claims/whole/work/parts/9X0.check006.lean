/-! the methods are right -/
theorem v_43 : mF aTB aSh0 aFk0 q_43 := mCk_ok (o := 3) (w := (778, 777, 10025, 5)) tabF_ok (by decide +kernel)
theorem v_44 : mF aTB aSh0 aFk0 q_44 := mCk_ok (o := 3) (w := (783, 782, 10026, 5)) tabF_ok (by decide +kernel)
theorem v_45 : mF aTB aSh0 aFk0 q_45 := mCk_ok (o := 3) (w := (788, 787, 10027, 5)) tabF_ok (by decide +kernel)
theorem v_46 : mF aTB aSh0 aFk0 q_46 := mCk_ok (o := 0) (w := (792, 790, 791, 2)) tabF_ok (by decide +kernel)
theorem v_47 : mF aTB aSh0 aFk0 q_47 := mCk_ok (o := 2) (w := (796, 794, 795, 4)) tabF_ok (by decide +kernel)
