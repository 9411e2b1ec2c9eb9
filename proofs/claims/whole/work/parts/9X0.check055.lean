/-! the methods are right -/
theorem v_225_0 : cdCk 12 q_225 (List.take 101 (List.drop 0 k_225)) = true := by decide +kernel
