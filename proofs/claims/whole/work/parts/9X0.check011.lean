/-! the methods are right -/
theorem v_54_x : cdCk 3 q_54 k_54 = true := (cdCk_cut 100 _ v_54_0 v_54_1)
theorem v_54 : mF aTB aSh0 aFk0 q_54 := mCk_ok (o := 3) (w := (833, 832, 10032, 5)) tabF_ok (mCk_of (by decide +kernel) v_54_x)
theorem v_55 : mF aTB aSh0 aFk0 q_55 := mCk_ok (o := 4) (w := (837, 835, 836, 6)) tabF_ok (by decide +kernel)
theorem v_56 : mF aTB aSh0 aFk0 q_56 := mCk_ok (o := 4) (w := (841, 839, 840, 6)) tabF_ok (by decide +kernel)
theorem v_57 : mF aTB aSh0 aFk0 q_57 := mCk_ok (o := 4) (w := (845, 844, 10033, 6)) tabF_ok (by decide +kernel)
theorem v_58 : mF aTB aSh0 aFk0 q_58 := mCk_ok (o := 4) (w := (849, 848, 10034, 6)) tabF_ok (by decide +kernel)
theorem v_59 : mF aTB aSh0 aFk0 q_59 := mCk_ok (o := 4) (w := (854, 853, 10035, 6)) tabF_ok (by decide +kernel)
