/-! THE CLAIM -/
theorem i_vc : Claimed_1_1 ∧ Claimed_1_2 := lw_all (fun _ _ _ _ h => ⟨fun n => aSim h n, aTB_ok⟩)
