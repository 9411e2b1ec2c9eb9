/-! the methods are right -/
theorem v_252_1 : cdCk 13 q_252 (List.drop 100 k_252) = true := by decide +kernel
