/-! the methods are right -/
theorem v_282_2 : cdCk 13 q_282 (List.drop 200 k_282) = true := by decide +kernel
