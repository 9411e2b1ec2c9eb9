/-! the methods are right -/
theorem v_277_0 : cdCk 13 q_277 (List.take 101 (List.drop 0 k_277)) = true := by decide +kernel
