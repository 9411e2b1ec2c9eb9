/-! the methods are right -/
theorem v_14 : mF aTB aSh0 aFk0 q_14 := mCk_ok (o := 1) (w := (595, 594, 0, 3)) tabF_ok (by decide +kernel)
theorem v_15 : mF aTB aSh0 aFk0 q_15 := mCk_ok (o := 1) (w := (599, 598, 10011, 3)) tabF_ok (by decide +kernel)
theorem v_16 : mF aTB aSh0 aFk0 q_16 := mCk_ok (o := 0) (w := (603, 601, 602, 2)) tabF_ok (by decide +kernel)
theorem v_17 : mF aTB aSh0 aFk0 q_17 := mCk_ok (o := 1) (w := (607, 605, 606, 3)) tabF_ok (by decide +kernel)
theorem v_18 : mF aTB aSh0 aFk0 q_18 := mCk_ok (o := 1) (w := (611, 609, 610, 3)) tabF_ok (by decide +kernel)
theorem v_19 : mF aTB aSh0 aFk0 q_19 := mCk_ok (o := 1) (w := (615, 614, 10012, 3)) tabF_ok (by decide +kernel)
theorem v_20 : mF aTB aSh0 aFk0 q_20 := mCk_ok (o := 1) (w := (619, 618, 10013, 3)) tabF_ok (by decide +kernel)
theorem v_21 : mF aTB aSh0 aFk0 q_21 := mCk_ok (o := 1) (w := (623, 622, 10014, 3)) tabF_ok (by decide +kernel)
