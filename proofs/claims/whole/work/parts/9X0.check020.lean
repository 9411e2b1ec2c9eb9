/-! the methods are right -/
theorem v_117 : mF aTB aSh0 aFk0 q_117 := mCk_ok (o := 11) (w := (1233, 1232, 10062, 1)) tabF_ok (by decide +kernel)
theorem v_118 : mF aTB aSh0 aFk0 q_118 := mCk_ok (o := 11) (w := (1238, 1237, 10063, 1)) tabF_ok (by decide +kernel)
theorem v_119 : mF aTB aSh0 aFk0 q_119 := mCk_ok (o := 6) (w := (1242, 1240, 1241, 8)) tabF_ok (by decide +kernel)
theorem v_120 : mF aTB aSh0 aFk0 q_120 := mCk_ok (o := 6) (w := (1246, 1244, 1245, 8)) tabF_ok (by decide +kernel)
theorem v_121 : mF aTB aSh0 aFk0 q_121 := mCk_ok (o := 6) (w := (1250, 1249, 10064, 8)) tabF_ok (by decide +kernel)
theorem v_122 : mF aTB aSh0 aFk0 q_122 := mCk_ok (o := 6) (w := (1254, 1253, 10065, 8)) tabF_ok (by decide +kernel)
theorem v_123 : mF aTB aSh0 aFk0 q_123 := mCk_ok (o := 6) (w := (1258, 1257, 10066, 8)) tabF_ok (by decide +kernel)
