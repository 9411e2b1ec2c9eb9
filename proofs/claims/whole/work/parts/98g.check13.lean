/-! the methods are right -/
theorem v_151 : mF aTB aSh0 aFk0 q_151 := mCk_ok (o := 8) (w := (1394, 1393, 10083, 10)) tabF_ok (by decide +kernel)
theorem v_152 : mF aTB aSh0 aFk0 q_152 := mCk_ok (o := 8) (w := (1398, 1397, 10084, 10)) tabF_ok (by decide +kernel)
theorem v_153 : mF aTB aSh0 aFk0 q_153 := mCk_ok (o := 8) (w := (1403, 1402, 10085, 10)) tabF_ok (by decide +kernel)
theorem v_154 : mF aTB aSh0 aFk0 q_154 := mCk_ok (o := 8) (w := (1407, 1406, 10086, 10)) tabF_ok (by decide +kernel)
theorem v_155 : mF aTB aSh0 aFk0 q_155 := mCk_ok (o := 11) (w := (1414, 1412, 1413, 1)) tabF_ok (by decide +kernel)
theorem v_156 : mF aTB aSh0 aFk0 q_156 := mCk_ok (o := 11) (w := (1418, 1417, 10087, 1)) tabF_ok (by decide +kernel)
theorem v_157 : mF aTB aSh0 aFk0 q_157 := mCk_ok (o := 11) (w := (1423, 1422, 10088, 1)) tabF_ok (by decide +kernel)
theorem v_158 : mF aTB aSh0 aFk0 q_158 := mCk_ok (o := 11) (w := (1430, 1428, 1429, 1)) tabF_ok (by decide +kernel)
