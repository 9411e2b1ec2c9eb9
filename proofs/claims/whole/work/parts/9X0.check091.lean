/-! the methods are right -/
theorem v_284_0 : cdCk 13 q_284 (List.take 101 (List.drop 0 k_284)) = true := by decide +kernel
