/-! the methods are right -/
theorem v_277_2 : cdCk 13 q_277 (List.drop 200 k_277) = true := by decide +kernel
