/-! the methods are right -/
theorem v_282_x : cdCk 13 q_282 k_282 = true := (cdCk_cut 100 _ v_282_0 (cdCk_cut 100 _ v_282_1 (by rw [List.drop_drop]; exact v_282_2)))
theorem v_282 : mF aTB aSh0 aFk0 q_282 := mCk_ok (o := 13) (w := (2301, 2300, 10169, 13)) tabF_ok (mCk_of (by decide +kernel) v_282_x)
theorem v_283 : mF aTB aSh0 aFk0 q_283 := mCk_ok (o := 13) (w := (2305, 2304, 10170, 13)) tabF_ok (by decide +kernel)
