/-! the methods are right -/
theorem v_202_1 : cdCk 12 q_202 (List.drop 100 k_202) = true := by decide +kernel
