/-! the methods are right -/
theorem v_227_0 : cdCk 12 q_227 (List.take 101 (List.drop 0 k_227)) = true := by decide +kernel
