/-! the methods are right -/
theorem v_229_0 : cdCk 12 q_229 (List.take 101 (List.drop 0 k_229)) = true := by decide +kernel
