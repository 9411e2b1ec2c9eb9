/-! the methods are right -/
theorem v_222_0 : cdCk 12 q_222 (List.take 101 (List.drop 0 k_222)) = true := by decide +kernel
