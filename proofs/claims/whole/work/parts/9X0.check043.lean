/-! the methods are right -/
theorem v_211_2 : cdCk 12 q_211 (List.drop 200 k_211) = true := by decide +kernel
