/-! the methods are right -/
theorem v_205_1 : cdCk 12 q_205 (List.drop 100 k_205) = true := by decide +kernel
