/-! the methods are right -/
theorem v_282_1 : cdCk 13 q_282 (List.take 101 (List.drop 100 k_282)) = true := by decide +kernel
