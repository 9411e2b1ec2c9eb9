/-! the methods are right -/
theorem v_284_1 : cdCk 13 q_284 (List.drop 100 k_284) = true := by decide +kernel
