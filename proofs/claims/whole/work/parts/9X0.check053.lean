/-! the methods are right -/
theorem v_224_1 : cdCk 12 q_224 (List.drop 100 k_224) = true := by decide +kernel
