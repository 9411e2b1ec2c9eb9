/-! the methods are right -/
theorem v_146 : mF aTB aSh0 aFk0 q_146 := mCk_ok (o := 8) (w := (1369, 1368, 10079, 10)) tabF_ok (by decide +kernel)
theorem v_147 : mF aTB aSh0 aFk0 q_147 := mCk_ok (o := 8) (w := (1374, 1373, 10080, 10)) tabF_ok (by decide +kernel)
theorem v_148 : mF aTB aSh0 aFk0 q_148 := mCk_ok (o := 8) (w := (1378, 1376, 1377, 10)) tabF_ok (by decide +kernel)
theorem v_149 : mF aTB aSh0 aFk0 q_149 := mCk_ok (o := 8) (w := (1382, 1381, 10081, 10)) tabF_ok (by decide +kernel)
theorem v_150 : mF aTB aSh0 aFk0 q_150 := mCk_ok (o := 8) (w := (1389, 1388, 10082, 10)) tabF_ok (by decide +kernel)
theorem v_151 : mF aTB aSh0 aFk0 q_151 := mCk_ok (o := 8) (w := (1394, 1393, 10083, 10)) tabF_ok (by decide +kernel)
