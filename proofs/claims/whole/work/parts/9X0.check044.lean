/-! the methods are right -/
theorem v_211_x : cdCk 12 q_211 k_211 = true := (cdCk_cut 100 _ v_211_0 (cdCk_cut 100 _ v_211_1 (by rw [List.drop_drop]; exact v_211_2)))
theorem v_211 : mF aTB aSh0 aFk0 q_211 := mCk_ok (o := 12) (w := (1985, 1984, 10113, 14)) tabF_ok (mCk_of (by decide +kernel) v_211_x)
theorem v_212 : mF aTB aSh0 aFk0 q_212 := mCk_ok (o := 12) (w := (1989, 1988, 10114, 14)) tabF_ok (by decide +kernel)
theorem v_213 : mF aTB aSh0 aFk0 q_213 := mCk_ok (o := 12) (w := (1993, 1992, 10115, 14)) tabF_ok (by decide +kernel)
theorem v_214 : mF aTB aSh0 aFk0 q_214 := mCk_ok (o := 12) (w := (2002, 2001, 10116, 14)) tabF_ok (by decide +kernel)
theorem v_215 : mF aTB aSh0 aFk0 q_215 := mCk_ok (o := 12) (w := (2006, 2005, 10117, 14)) tabF_ok (by decide +kernel)
