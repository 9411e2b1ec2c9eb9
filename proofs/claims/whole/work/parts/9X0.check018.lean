/-! the methods are right -/
theorem v_103 : mF aTB aSh0 aFk0 q_103 := mCk_ok (o := 7) (w := (1162, 1161, 10058, 9)) tabF_ok (by decide +kernel)
theorem v_104 : mF aTB aSh0 aFk0 q_104 := mCk_ok (o := 11) (w := (1167, 1166, 10059, 1)) tabF_ok (by decide +kernel)
theorem v_105 : mF aTB aSh0 aFk0 q_105 := mCk_ok (o := 10) (w := (1171, 1169, 1170, 12)) tabF_ok (by decide +kernel)
theorem v_106 : mF aTB aSh0 aFk0 q_106 := mCk_ok (o := 9) (w := (1174, 1173, 0, 11)) tabF_ok (by decide +kernel)
theorem v_107 : mF aTB aSh0 aFk0 q_107 := mCk_ok (o := 9) (w := (1182, 1180, 1181, 11)) tabF_ok (by decide +kernel)
theorem v_108 : mF aTB aSh0 aFk0 q_108 := mCk_ok (o := 9) (w := (1187, 1185, 1186, 11)) tabF_ok (by decide +kernel)
