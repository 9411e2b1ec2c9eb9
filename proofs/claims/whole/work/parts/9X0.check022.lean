/-! the methods are right -/
theorem v_131 : mF aTB aSh0 aFk0 q_131 := mCk_ok (o := 6) (w := (1299, 1298, 10073, 8)) tabF_ok (by decide +kernel)
theorem v_132 : mF aTB aSh0 aFk0 q_132 := mCk_ok (o := 0) (w := (1303, 1301, 1302, 2)) tabF_ok (by decide +kernel)
theorem v_133 : mF aTB aSh0 aFk0 q_133 := mCk_ok (o := 0) (w := (1306, 1305, 0, 2)) tabF_ok (by decide +kernel)
theorem v_134 : mF aTB aSh0 aFk0 q_134 := mCk_ok (o := 11) (w := (1314, 1312, 1313, 1)) tabF_ok (by decide +kernel)
theorem v_135 : mF aTB aSh0 aFk0 q_135 := mCk_ok (o := 11) (w := (1318, 1317, 10074, 1)) tabF_ok (by decide +kernel)
theorem v_136 : mF aTB aSh0 aFk0 q_136 := mCk_ok (o := 11) (w := (1327, 1325, 1326, 1)) tabF_ok (by decide +kernel)
