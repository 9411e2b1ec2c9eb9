/-! the methods are right -/
theorem v_262_1 : cdCk 13 q_262 (List.drop 100 k_262) = true := by decide +kernel
