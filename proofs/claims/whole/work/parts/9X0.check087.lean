/-! the methods are right -/
theorem v_282_0 : cdCk 13 q_282 (List.take 101 (List.drop 0 k_282)) = true := by decide +kernel
