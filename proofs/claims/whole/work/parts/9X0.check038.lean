/-! the methods are right -/
theorem v_210_0 : cdCk 12 q_210 (List.take 101 (List.drop 0 k_210)) = true := by decide +kernel
