/-! the methods are right -/
theorem v_48 : mF aTB aSh0 aFk0 q_48 := mCk_ok (o := 0) (w := (801, 799, 800, 2)) tabF_ok (by decide +kernel)
theorem v_49 : mF aTB aSh0 aFk0 q_49 := mCk_ok (o := 3) (w := (808, 807, 10028, 5)) tabF_ok (by decide +kernel)
theorem v_50 : mF aTB aSh0 aFk0 q_50 := mCk_ok (o := 3) (w := (814, 813, 10029, 5)) tabF_ok (by decide +kernel)
theorem v_51 : mF aTB aSh0 aFk0 q_51 := mCk_ok (o := 2) (w := (819, 817, 818, 4)) tabF_ok (by decide +kernel)
theorem v_52 : mF aTB aSh0 aFk0 q_52 := mCk_ok (o := 3) (w := (823, 822, 10030, 5)) tabF_ok (by decide +kernel)
