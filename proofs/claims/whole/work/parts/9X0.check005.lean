/-! the methods are right -/
theorem v_36 : mF aTB aSh0 aFk0 q_36 := mCk_ok (o := 2) (w := (747, 745, 746, 4)) tabF_ok (by decide +kernel)
theorem v_37 : mF aTB aSh0 aFk0 q_37 := mCk_ok (o := 2) (w := (751, 749, 750, 4)) tabF_ok (by decide +kernel)
theorem v_38 : mF aTB aSh0 aFk0 q_38 := mCk_ok (o := 3) (w := (755, 754, 10022, 5)) tabF_ok (by decide +kernel)
theorem v_39 : mF aTB aSh0 aFk0 q_39 := mCk_ok (o := 2) (w := (759, 757, 758, 4)) tabF_ok (by decide +kernel)
theorem v_40 : mF aTB aSh0 aFk0 q_40 := mCk_ok (o := 3) (w := (763, 762, 10023, 5)) tabF_ok (by decide +kernel)
theorem v_41 : mF aTB aSh0 aFk0 q_41 := mCk_ok (o := 1) (w := (768, 766, 767, 3)) tabF_ok (by decide +kernel)
theorem v_42 : mF aTB aSh0 aFk0 q_42 := mCk_ok (o := 3) (w := (773, 772, 10024, 5)) tabF_ok (by decide +kernel)
