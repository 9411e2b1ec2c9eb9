/-! the methods are right -/
theorem v_224_0 : cdCk 12 q_224 (List.take 101 (List.drop 0 k_224)) = true := by decide +kernel
