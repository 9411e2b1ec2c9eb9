/-! the methods are right -/
theorem v_227_1 : cdCk 12 q_227 (List.drop 100 k_227) = true := by decide +kernel
