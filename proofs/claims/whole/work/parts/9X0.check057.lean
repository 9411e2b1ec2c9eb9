/-! the methods are right -/
theorem v_225_2 : cdCk 12 q_225 (List.drop 200 k_225) = true := by decide +kernel
