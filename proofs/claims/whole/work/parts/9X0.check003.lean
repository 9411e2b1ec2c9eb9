/-! the methods are right -/
theorem v_22 : mF aTB aSh0 aFk0 q_22 := mCk_ok (o := 1) (w := (628, 627, 10015, 3)) tabF_ok (by decide +kernel)
theorem v_23 : mF aTB aSh0 aFk0 q_23 := mCk_ok (o := 1) (w := (681, 680, 0, 3)) tabF_ok (by decide +kernel)
theorem v_24 : mF aTB aSh0 aFk0 q_24 := mCk_ok (o := 1) (w := (685, 684, 10016, 3)) tabF_ok (by decide +kernel)
theorem v_25 : mF aTB aSh0 aFk0 q_25 := mCk_ok (o := 3) (w := (691, 689, 690, 5)) tabF_ok (by decide +kernel)
theorem v_26 : mF aTB aSh0 aFk0 q_26 := mCk_ok (o := 2) (w := (695, 693, 694, 4)) tabF_ok (by decide +kernel)
theorem v_27 : mF aTB aSh0 aFk0 q_27 := mCk_ok (o := 4) (w := (699, 697, 698, 6)) tabF_ok (by decide +kernel)
theorem v_28 : mF aTB aSh0 aFk0 q_28 := mCk_ok (o := 3) (w := (703, 702, 10017, 5)) tabF_ok (by decide +kernel)
