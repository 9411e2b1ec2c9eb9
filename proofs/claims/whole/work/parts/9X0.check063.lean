/-! the methods are right -/
theorem v_229_1 : cdCk 12 q_229 (List.drop 100 k_229) = true := by decide +kernel
