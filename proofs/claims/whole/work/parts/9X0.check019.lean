/-! the methods are right -/
theorem v_109 : mF aTB aSh0 aFk0 q_109 := mCk_ok (o := 11) (w := (1192, 1191, 10060, 1)) tabF_ok (by decide +kernel)
theorem v_110 : mF aTB aSh0 aFk0 q_110 := mCk_ok (o := 2) (w := (1196, 1194, 1195, 4)) tabF_ok (by decide +kernel)
theorem v_111 : mF aTB aSh0 aFk0 q_111 := mCk_ok (o := 10) (w := (1201, 1199, 1200, 12)) tabF_ok (by decide +kernel)
theorem v_112 : mF aTB aSh0 aFk0 q_112 := mCk_ok (o := 11) (w := (1205, 1204, 10061, 1)) tabF_ok (by decide +kernel)
theorem v_113 : mF aTB aSh0 aFk0 q_113 := mCk_ok (o := 10) (w := (1209, 1207, 1208, 12)) tabF_ok (by decide +kernel)
theorem v_114 : mF aTB aSh0 aFk0 q_114 := mCk_ok (o := 0) (w := (1216, 1214, 1215, 2)) tabF_ok (by decide +kernel)
theorem v_115 : mF aTB aSh0 aFk0 q_115 := mCk_ok (o := 2) (w := (1221, 1219, 1220, 4)) tabF_ok (by decide +kernel)
theorem v_116 : mF aTB aSh0 aFk0 q_116 := mCk_ok (o := 11) (w := (1229, 1227, 1228, 1)) tabF_ok (by decide +kernel)
