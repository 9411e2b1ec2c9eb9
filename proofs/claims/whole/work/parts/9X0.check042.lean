/-! the methods are right -/
theorem v_211_1 : cdCk 12 q_211 (List.take 101 (List.drop 100 k_211)) = true := by decide +kernel
