/-! the methods are right -/
theorem v_211_0 : cdCk 12 q_211 (List.take 101 (List.drop 0 k_211)) = true := by decide +kernel
