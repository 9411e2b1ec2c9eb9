/-! the methods are right -/
theorem v_0 : mF aTB aSh0 aFk0 q_0 := mCk_ok (o := 11) (w := (538, 536, 537, 1)) tabF_ok (by decide +kernel)
theorem v_1 : mF aTB aSh0 aFk0 q_1 := mCk_ok (o := 11) (w := (542, 541, 10000, 1)) tabF_ok (by decide +kernel)
theorem v_2 : mF aTB aSh0 aFk0 q_2 := mCk_ok (o := 1) (w := (546, 544, 545, 3)) tabF_ok (by decide +kernel)
theorem v_3 : mF aTB aSh0 aFk0 q_3 := mCk_ok (o := 1) (w := (553, 552, 10001, 3)) tabF_ok (by decide +kernel)
theorem v_4 : mF aTB aSh0 aFk0 q_4 := mCk_ok (o := 1) (w := (557, 556, 10002, 3)) tabF_ok (by decide +kernel)
theorem v_5 : mF aTB aSh0 aFk0 q_5 := mCk_ok (o := 1) (w := (561, 560, 10003, 3)) tabF_ok (by decide +kernel)
theorem v_6 : mF aTB aSh0 aFk0 q_6 := mCk_ok (o := 1) (w := (564, 563, 0, 3)) tabF_ok (by decide +kernel)
theorem v_7 : mF aTB aSh0 aFk0 q_7 := mCk_ok (o := 1) (w := (568, 567, 10004, 3)) tabF_ok (by decide +kernel)
