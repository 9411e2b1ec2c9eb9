/-! the methods are right -/
theorem v_202_0 : cdCk 12 q_202 (List.take 101 (List.drop 0 k_202)) = true := by decide +kernel
