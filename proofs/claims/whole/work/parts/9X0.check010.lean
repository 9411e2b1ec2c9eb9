/-! the methods are right -/
theorem v_54_1 : cdCk 3 q_54 (List.drop 100 k_54) = true := by decide +kernel
