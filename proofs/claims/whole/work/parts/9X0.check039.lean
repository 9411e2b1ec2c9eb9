/-! the methods are right -/
theorem v_210_1 : cdCk 12 q_210 (List.drop 100 k_210) = true := by decide +kernel
