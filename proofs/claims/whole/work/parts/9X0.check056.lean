/-! the methods are right -/
theorem v_225_1 : cdCk 12 q_225 (List.take 101 (List.drop 100 k_225)) = true := by decide +kernel
