/-! the methods are right -/
theorem v_60 : mF aTB aSh0 aFk0 q_60 := mCk_ok (o := 4) (w := (858, 857, 10036, 6)) tabF_ok (by decide +kernel)
theorem v_61 : mF aTB aSh0 aFk0 q_61 := mCk_ok (o := 2) (w := (862, 860, 861, 4)) tabF_ok (by decide +kernel)
theorem v_62 : mF aTB aSh0 aFk0 q_62 := mCk_ok (o := 4) (w := (867, 866, 10037, 6)) tabF_ok (by decide +kernel)
theorem v_63 : mF aTB aSh0 aFk0 q_63 := mCk_ok (o := 4) (w := (872, 871, 10038, 6)) tabF_ok (by decide +kernel)
