/-! the methods are right -/
theorem v_270_1 : cdCk 13 q_270 (List.drop 100 k_270) = true := by decide +kernel
