/-! the methods are right -/
theorem v_8 : mF aTB aSh0 aFk0 q_8 := mCk_ok (o := 1) (w := (572, 571, 10005, 3)) tabF_ok (by decide +kernel)
theorem v_9 : mF aTB aSh0 aFk0 q_9 := mCk_ok (o := 1) (w := (576, 575, 10006, 3)) tabF_ok (by decide +kernel)
theorem v_10 : mF aTB aSh0 aFk0 q_10 := mCk_ok (o := 1) (w := (580, 579, 10007, 3)) tabF_ok (by decide +kernel)
theorem v_11 : mF aTB aSh0 aFk0 q_11 := mCk_ok (o := 1) (w := (584, 583, 10008, 3)) tabF_ok (by decide +kernel)
theorem v_12 : mF aTB aSh0 aFk0 q_12 := mCk_ok (o := 1) (w := (588, 587, 10009, 3)) tabF_ok (by decide +kernel)
theorem v_13 : mF aTB aSh0 aFk0 q_13 := mCk_ok (o := 1) (w := (592, 591, 10010, 3)) tabF_ok (by decide +kernel)
