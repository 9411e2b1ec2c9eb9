/-! the methods are right -/
theorem v_29 : mF aTB aSh0 aFk0 q_29 := mCk_ok (o := 3) (w := (707, 706, 10018, 5)) tabF_ok (by decide +kernel)
theorem v_30 : mF aTB aSh0 aFk0 q_30 := mCk_ok (o := 3) (w := (711, 710, 10019, 5)) tabF_ok (by decide +kernel)
theorem v_31 : mF aTB aSh0 aFk0 q_31 := mCk_ok (o := 2) (w := (714, 713, 0, 4)) tabF_ok (by decide +kernel)
theorem v_32 : mF aTB aSh0 aFk0 q_32 := mCk_ok (o := 1) (w := (730, 728, 729, 3)) tabF_ok (by decide +kernel)
theorem v_33 : mF aTB aSh0 aFk0 q_33 := mCk_ok (o := 2) (w := (734, 732, 733, 4)) tabF_ok (by decide +kernel)
theorem v_34 : mF aTB aSh0 aFk0 q_34 := mCk_ok (o := 3) (w := (739, 738, 10020, 5)) tabF_ok (by decide +kernel)
theorem v_35 : mF aTB aSh0 aFk0 q_35 := mCk_ok (o := 3) (w := (743, 742, 10021, 5)) tabF_ok (by decide +kernel)
