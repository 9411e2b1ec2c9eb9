/-! the methods are right -/
theorem v_220_1 : cdCk 12 q_220 (List.drop 100 k_220) = true := by decide +kernel
