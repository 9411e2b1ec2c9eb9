/-! the methods are right -/
theorem v_54_0 : cdCk 3 q_54 (List.take 101 (List.drop 0 k_54)) = true := by decide +kernel
