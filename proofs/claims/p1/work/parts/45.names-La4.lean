/-! names: methods, their instructions, words -/
