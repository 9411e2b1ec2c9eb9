/-! the methods are right -/
theorem v_152 : mF aTB aSh0 aFk0 q_152 := mCk_ok (o := 8) (w := (1398, 1397, 10084, 10)) tabF_ok (by decide +kernel)
theorem v_153 : mF aTB aSh0 aFk0 q_153 := mCk_ok (o := 8) (w := (1403, 1402, 10085, 10)) tabF_ok (by decide +kernel)
theorem v_154 : mF aTB aSh0 aFk0 q_154 := mCk_ok (o := 8) (w := (1407, 1406, 10086, 10)) tabF_ok (by decide +kernel)
theorem v_155 : mF aTB aSh0 aFk0 q_155 := mCk_ok (o := 11) (w := (1414, 1412, 1413, 1)) tabF_ok (by decide +kernel)
theorem v_156 : mF aTB aSh0 aFk0 q_156 := mCk_ok (o := 11) (w := (1418, 1417, 10087, 1)) tabF_ok (by decide +kernel)
