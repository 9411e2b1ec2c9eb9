/-! the methods are right -/
theorem v_239_1 : cdCk 13 q_239 (List.take 101 (List.drop 100 k_239)) = true := by decide +kernel
