/-! the methods are right -/
theorem v_222_1 : cdCk 12 q_222 (List.drop 100 k_222) = true := by decide +kernel
