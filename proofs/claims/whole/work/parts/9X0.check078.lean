/-! the methods are right -/
theorem v_268 : mF aTB aSh0 aFk0 q_268 := mCk_ok (o := 13) (w := (2245, 2244, 0, 13)) tabF_ok (by decide +kernel)
theorem v_269 : mF aTB aSh0 aFk0 q_269 := mCk_ok (o := 13) (w := (2249, 2247, 2248, 13)) tabF_ok (by decide +kernel)
