/-! the methods are right -/
theorem v_220_0 : cdCk 12 q_220 (List.take 101 (List.drop 0 k_220)) = true := by decide +kernel
