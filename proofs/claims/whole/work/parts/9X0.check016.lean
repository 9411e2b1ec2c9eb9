/-! the methods are right -/
theorem v_88 : mF aTB aSh0 aFk0 q_88 := mCk_ok (o := 2) (w := (1103, 1101, 1102, 4)) tabF_ok (by decide +kernel)
theorem v_89 : mF aTB aSh0 aFk0 q_89 := mCk_ok (o := 2) (w := (1107, 1105, 1106, 4)) tabF_ok (by decide +kernel)
theorem v_90 : mF aTB aSh0 aFk0 q_90 := mCk_ok (o := 7) (w := (1111, 1109, 1110, 9)) tabF_ok (by decide +kernel)
theorem v_91 : mF aTB aSh0 aFk0 q_91 := mCk_ok (o := 7) (w := (1115, 1114, 10053, 9)) tabF_ok (by decide +kernel)
theorem v_92 : mF aTB aSh0 aFk0 q_92 := mCk_ok (o := 7) (w := (1118, 1117, 0, 9)) tabF_ok (by decide +kernel)
theorem v_93 : mF aTB aSh0 aFk0 q_93 := mCk_ok (o := 7) (w := (1121, 1120, 0, 9)) tabF_ok (by decide +kernel)
theorem v_94 : mF aTB aSh0 aFk0 q_94 := mCk_ok (o := 7) (w := (1125, 1124, 10054, 9)) tabF_ok (by decide +kernel)
theorem v_95 : mF aTB aSh0 aFk0 q_95 := mCk_ok (o := 7) (w := (1130, 1128, 1129, 9)) tabF_ok (by decide +kernel)
