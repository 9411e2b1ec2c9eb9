/-! the methods are right -/
theorem v_211 : mF aTB aSh0 aFk0 q_211 := mCk_ok (o := 12) (w := (1985, 1984, 10113, 14)) tabF_ok (by decide +kernel)
theorem v_212 : mF aTB aSh0 aFk0 q_212 := mCk_ok (o := 12) (w := (1989, 1988, 10114, 14)) tabF_ok (by decide +kernel)
theorem v_213 : mF aTB aSh0 aFk0 q_213 := mCk_ok (o := 12) (w := (1993, 1992, 10115, 14)) tabF_ok (by decide +kernel)
theorem v_214 : mF aTB aSh0 aFk0 q_214 := mCk_ok (o := 12) (w := (2002, 2001, 10116, 14)) tabF_ok (by decide +kernel)
theorem v_215 : mF aTB aSh0 aFk0 q_215 := mCk_ok (o := 12) (w := (2006, 2005, 10117, 14)) tabF_ok (by decide +kernel)
theorem v_216 : mF aTB aSh0 aFk0 q_216 := mCk_ok (o := 12) (w := (2010, 2009, 10118, 14)) tabF_ok (by decide +kernel)
