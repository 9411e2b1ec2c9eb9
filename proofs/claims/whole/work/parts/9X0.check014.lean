/-! the methods are right -/
theorem v_70 : mF aTB aSh0 aFk0 q_70 := mCk_ok (o := 5) (w := (906, 905, 10043, 7)) tabF_ok (by decide +kernel)
theorem v_71 : mF aTB aSh0 aFk0 q_71 := mCk_ok (o := 0) (w := (911, 909, 910, 2)) tabF_ok (by decide +kernel)
theorem v_72 : mF aTB aSh0 aFk0 q_72 := mCk_ok (o := 5) (w := (917, 916, 10044, 7)) tabF_ok (by decide +kernel)
theorem v_73 : mF aTB aSh0 aFk0 q_73 := mCk_ok (o := 5) (w := (924, 923, 10045, 7)) tabF_ok (by decide +kernel)
theorem v_74 : mF aTB aSh0 aFk0 q_74 := mCk_ok (o := 5) (w := (930, 929, 10046, 7)) tabF_ok (by decide +kernel)
theorem v_75 : mF aTB aSh0 aFk0 q_75 := mCk_ok (o := 5) (w := (935, 934, 10047, 7)) tabF_ok (by decide +kernel)
theorem v_76 : mF aTB aSh0 aFk0 q_76 := mCk_ok (o := 5) (w := (942, 941, 10048, 7)) tabF_ok (by decide +kernel)
theorem v_77 : mF aTB aSh0 aFk0 q_77 := mCk_ok (o := 5) (w := (947, 946, 10049, 7)) tabF_ok (by decide +kernel)
