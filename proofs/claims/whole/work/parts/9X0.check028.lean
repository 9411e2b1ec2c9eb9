/-! the methods are right -/
theorem v_176 : mF aTB aSh0 aFk0 q_176 := mCk_ok (o := 5) (w := (1515, 1513, 1514, 7)) tabF_ok (by decide +kernel)
theorem v_177 : mF aTB aSh0 aFk0 q_177 := mCk_ok (o := 11) (w := (1523, 1521, 1522, 1)) tabF_ok (by decide +kernel)
theorem v_178 : mF aTB aSh0 aFk0 q_178 := mCk_ok (o := 11) (w := (1532, 1530, 1531, 1)) tabF_ok (by decide +kernel)
theorem v_179 : mF aTB aSh0 aFk0 q_179 := mCk_ok (o := 11) (w := (1539, 1537, 1538, 1)) tabF_ok (by decide +kernel)
theorem v_180 : mF aTB aSh0 aFk0 q_180 := mCk_ok (o := 11) (w := (1547, 1545, 1546, 1)) tabF_ok (by decide +kernel)
theorem v_181 : mF aTB aSh0 aFk0 q_181 := mCk_ok (o := 11) (w := (1555, 1553, 1554, 1)) tabF_ok (by decide +kernel)
theorem v_182 : mF aTB aSh0 aFk0 q_182 := mCk_ok (o := 10) (w := (1560, 1558, 1559, 12)) tabF_ok (by decide +kernel)
theorem v_183 : mF aTB aSh0 aFk0 q_183 := mCk_ok (o := 10) (w := (1563, 1562, 0, 12)) tabF_ok (by decide +kernel)
