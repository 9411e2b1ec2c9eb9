/-! the methods are right -/
theorem v_239_0 : cdCk 13 q_239 (List.take 101 (List.drop 0 k_239)) = true := by decide +kernel
