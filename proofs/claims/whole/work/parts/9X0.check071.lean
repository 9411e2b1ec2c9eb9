/-! the methods are right -/
theorem v_252_0 : cdCk 13 q_252 (List.take 101 (List.drop 0 k_252)) = true := by decide +kernel
