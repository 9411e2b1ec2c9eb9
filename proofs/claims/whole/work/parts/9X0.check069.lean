/-! the methods are right -/
theorem v_239_x : cdCk 13 q_239 k_239 = true := (cdCk_cut 100 _ v_239_0 (cdCk_cut 100 _ v_239_1 (by rw [List.drop_drop]; exact v_239_2)))
theorem v_239 : mF aTB aSh0 aFk0 q_239 := mCk_ok (o := 13) (w := (2129, 2128, 10139, 13)) tabF_ok (mCk_of (by decide +kernel) v_239_x)
theorem v_240 : mF aTB aSh0 aFk0 q_240 := mCk_ok (o := 13) (w := (2132, 2131, 0, 13)) tabF_ok (by decide +kernel)
theorem v_241 : mF aTB aSh0 aFk0 q_241 := mCk_ok (o := 13) (w := (2135, 2134, 0, 13)) tabF_ok (by decide +kernel)
theorem v_242 : mF aTB aSh0 aFk0 q_242 := mCk_ok (o := 13) (w := (2138, 2137, 0, 13)) tabF_ok (by decide +kernel)
theorem v_243 : mF aTB aSh0 aFk0 q_243 := mCk_ok (o := 13) (w := (2141, 2140, 0, 13)) tabF_ok (by decide +kernel)
theorem v_244 : mF aTB aSh0 aFk0 q_244 := mCk_ok (o := 13) (w := (2146, 2145, 0, 13)) tabF_ok (by decide +kernel)
theorem v_245 : mF aTB aSh0 aFk0 q_245 := mCk_ok (o := 13) (w := (2150, 2149, 10140, 13)) tabF_ok (by decide +kernel)
