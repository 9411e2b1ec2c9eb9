/-! the methods are right -/
theorem v_262_0 : cdCk 13 q_262 (List.take 101 (List.drop 0 k_262)) = true := by decide +kernel
