/-! the methods are right -/
theorem v_124 : mF aTB aSh0 aFk0 q_124 := mCk_ok (o := 6) (w := (1263, 1262, 10067, 8)) tabF_ok (by decide +kernel)
theorem v_125 : mF aTB aSh0 aFk0 q_125 := mCk_ok (o := 6) (w := (1267, 1265, 1266, 8)) tabF_ok (by decide +kernel)
theorem v_126 : mF aTB aSh0 aFk0 q_126 := mCk_ok (o := 6) (w := (1272, 1271, 10068, 8)) tabF_ok (by decide +kernel)
theorem v_127 : mF aTB aSh0 aFk0 q_127 := mCk_ok (o := 6) (w := (1276, 1275, 10069, 8)) tabF_ok (by decide +kernel)
theorem v_128 : mF aTB aSh0 aFk0 q_128 := mCk_ok (o := 6) (w := (1281, 1280, 10070, 8)) tabF_ok (by decide +kernel)
theorem v_129 : mF aTB aSh0 aFk0 q_129 := mCk_ok (o := 6) (w := (1286, 1285, 10071, 8)) tabF_ok (by decide +kernel)
theorem v_130 : mF aTB aSh0 aFk0 q_130 := mCk_ok (o := 6) (w := (1290, 1289, 10072, 8)) tabF_ok (by decide +kernel)
