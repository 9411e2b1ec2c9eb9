/-! the methods are right -/
theorem v_64 : mF aTB aSh0 aFk0 q_64 := mCk_ok (o := 0) (w := (876, 874, 875, 2)) tabF_ok (by decide +kernel)
theorem v_65 : mF aTB aSh0 aFk0 q_65 := mCk_ok (o := 4) (w := (884, 883, 10039, 6)) tabF_ok (by decide +kernel)
theorem v_66 : mF aTB aSh0 aFk0 q_66 := mCk_ok (o := 4) (w := (889, 888, 10040, 6)) tabF_ok (by decide +kernel)
theorem v_67 : mF aTB aSh0 aFk0 q_67 := mCk_ok (o := 4) (w := (893, 892, 10041, 6)) tabF_ok (by decide +kernel)
theorem v_68 : mF aTB aSh0 aFk0 q_68 := mCk_ok (o := 5) (w := (897, 895, 896, 7)) tabF_ok (by decide +kernel)
theorem v_69 : mF aTB aSh0 aFk0 q_69 := mCk_ok (o := 5) (w := (901, 900, 10042, 7)) tabF_ok (by decide +kernel)
