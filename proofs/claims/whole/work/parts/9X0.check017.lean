/-! the methods are right -/
theorem v_96 : mF aTB aSh0 aFk0 q_96 := mCk_ok (o := 7) (w := (1134, 1133, 10055, 9)) tabF_ok (by decide +kernel)
theorem v_97 : mF aTB aSh0 aFk0 q_97 := mCk_ok (o := 7) (w := (1138, 1136, 1137, 9)) tabF_ok (by decide +kernel)
theorem v_98 : mF aTB aSh0 aFk0 q_98 := mCk_ok (o := 7) (w := (1141, 1140, 0, 9)) tabF_ok (by decide +kernel)
theorem v_99 : mF aTB aSh0 aFk0 q_99 := mCk_ok (o := 7) (w := (1145, 1144, 10056, 9)) tabF_ok (by decide +kernel)
theorem v_100 : mF aTB aSh0 aFk0 q_100 := mCk_ok (o := 2) (w := (1149, 1147, 1148, 4)) tabF_ok (by decide +kernel)
theorem v_101 : mF aTB aSh0 aFk0 q_101 := mCk_ok (o := 7) (w := (1153, 1152, 10057, 9)) tabF_ok (by decide +kernel)
theorem v_102 : mF aTB aSh0 aFk0 q_102 := mCk_ok (o := 2) (w := (1157, 1155, 1156, 4)) tabF_ok (by decide +kernel)
