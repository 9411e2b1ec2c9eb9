/-! the methods are right -/
theorem v_205_0 : cdCk 12 q_205 (List.take 101 (List.drop 0 k_205)) = true := by decide +kernel
