/-! the methods are right -/
theorem v_270_0 : cdCk 13 q_270 (List.take 101 (List.drop 0 k_270)) = true := by decide +kernel
