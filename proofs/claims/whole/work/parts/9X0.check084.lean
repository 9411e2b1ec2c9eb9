/-! the methods are right -/
theorem v_277_1 : cdCk 13 q_277 (List.take 101 (List.drop 100 k_277)) = true := by decide +kernel
