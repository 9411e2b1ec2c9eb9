/-! the methods are right -/
theorem v_202_x : cdCk 12 q_202 k_202 = true := (cdCk_cut 100 _ v_202_0 v_202_1)
theorem v_202 : mF aTB aSh0 aFk0 q_202 := mCk_ok (o := 12) (w := (1887, 1886, 10105, 14)) tabF_ok (mCk_of (by decide +kernel) v_202_x)
theorem v_203 : mF aTB aSh0 aFk0 q_203 := mCk_ok (o := 12) (w := (1891, 1890, 10106, 14)) tabF_ok (by decide +kernel)
theorem v_204 : mF aTB aSh0 aFk0 q_204 := mCk_ok (o := 12) (w := (1895, 1894, 10107, 14)) tabF_ok (by decide +kernel)
