/-! the methods are right -/
theorem v_266 : mF aTB aSh0 aFk0 q_266 := mCk_ok (o := 13) (w := (2238, 2236, 2237, 13)) tabF_ok (by decide +kernel)
theorem v_267 : mF aTB aSh0 aFk0 q_267 := mCk_ok (o := 13) (w := (2242, 2240, 2241, 13)) tabF_ok (by decide +kernel)
theorem v_268 : mF aTB aSh0 aFk0 q_268 := mCk_ok (o := 13) (w := (2245, 2244, 0, 13)) tabF_ok (by decide +kernel)
theorem v_269 : mF aTB aSh0 aFk0 q_269 := mCk_ok (o := 13) (w := (2249, 2247, 2248, 13)) tabF_ok (by decide +kernel)
theorem v_270 : mF aTB aSh0 aFk0 q_270 := mCk_ok (o := 13) (w := (2253, 2251, 2252, 13)) tabF_ok (by decide +kernel)
theorem v_271 : mF aTB aSh0 aFk0 q_271 := mCk_ok (o := 13) (w := (2257, 2256, 10158, 13)) tabF_ok (by decide +kernel)
theorem v_272 : mF aTB aSh0 aFk0 q_272 := mCk_ok (o := 13) (w := (2261, 2260, 10159, 13)) tabF_ok (by decide +kernel)
