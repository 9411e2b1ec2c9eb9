/-! the methods are right -/
theorem v_229_x : cdCk 12 q_229 k_229 = true := (cdCk_cut 100 _ v_229_0 v_229_1)
theorem v_229 : mF aTB aSh0 aFk0 q_229 := mCk_ok (o := 12) (w := (2083, 2082, 10131, 14)) tabF_ok (mCk_of (by decide +kernel) v_229_x)
theorem v_230 : mF aTB aSh0 aFk0 q_230 := mCk_ok (o := 12) (w := (2087, 2086, 10132, 14)) tabF_ok (by decide +kernel)
theorem v_231 : mF aTB aSh0 aFk0 q_231 := mCk_ok (o := 12) (w := (2094, 2093, 10133, 14)) tabF_ok (by decide +kernel)
theorem v_232 : mF aTB aSh0 aFk0 q_232 := mCk_ok (o := 13) (w := (2102, 2100, 2101, 13)) tabF_ok (by decide +kernel)
theorem v_233 : mF aTB aSh0 aFk0 q_233 := mCk_ok (o := 13) (w := (2105, 2104, 0, 13)) tabF_ok (by decide +kernel)
theorem v_234 : mF aTB aSh0 aFk0 q_234 := mCk_ok (o := 13) (w := (2109, 2108, 10134, 13)) tabF_ok (by decide +kernel)
theorem v_235 : mF aTB aSh0 aFk0 q_235 := mCk_ok (o := 13) (w := (2113, 2112, 10135, 13)) tabF_ok (by decide +kernel)
