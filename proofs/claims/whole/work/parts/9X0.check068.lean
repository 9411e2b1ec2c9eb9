/-! the methods are right -/
theorem v_239_2 : cdCk 13 q_239 (List.drop 200 k_239) = true := by decide +kernel
