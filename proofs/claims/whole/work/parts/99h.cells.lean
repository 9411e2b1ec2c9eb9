/-! cells of one kind: the rows of bytes (Bytes), the reference's Texts -/
def isB (c : Nat) : Prop := c ∈ [1, 3, 5, 7, 9, 11, 20, 32, 42, 44, 47, 54, 64]
def isT (c : Nat) : Prop := c ∈ [69, 91, 113]
theorem isB_sh {c : Nat} (h : isB c) : aSh0 c = some (.inr 0) := by
  revert c; unfold isB; decide
theorem isB_row {M : aM5} {c : Nat} (h : isB c) : Rof M c 0 = c + 1 := by
  unfold isB at h
  simp only [List.mem_cons, List.not_mem_nil, or_false] at h
  rcases h with rfl | rfl | rfl | rfl | rfl | rfl | rfl | rfl | rfl | rfl | rfl | rfl | rfl <;> rfl
theorem isB_arr {c : Nat} (h : isB c) : aSh0 (c + 1) = some (.inl (0, alen (c + 1))) := by
  unfold isB at h
  simp only [List.mem_cons, List.not_mem_nil, or_false] at h
  rcases h with rfl | rfl | rfl | rfl | rfl | rfl | rfl | rfl | rfl | rfl | rfl | rfl | rfl <;> rfl
theorem isT_sh {c : Nat} (h : isT c) : aSh0 c = some (.inr 12) := by
  revert c; unfold isT; decide
theorem isT_r1 {M : aM5} {c : Nat} (h : isT c) : Rof M c 0 = c + 1 := by
  unfold isT at h
  simp only [List.mem_cons, List.not_mem_nil, or_false] at h
  rcases h with rfl | rfl | rfl <;> rfl
theorem isT_a1 {c : Nat} (h : isT c) : aSh0 (c + 1) = some (.inl (0, 4096)) := by
  unfold isT at h
  simp only [List.mem_cons, List.not_mem_nil, or_false] at h
  rcases h with rfl | rfl | rfl <;> rfl
theorem isT_r2 {M : aM5} {c : Nat} (h : isT c) : Rof M c 8 = c + 2 := by
  unfold isT at h
  simp only [List.mem_cons, List.not_mem_nil, or_false] at h
  rcases h with rfl | rfl | rfl <;> rfl
theorem isT_a2 {c : Nat} (h : isT c) : aSh0 (c + 2) = some (.inl (1, 4200)) := by
  unfold isT at h
  simp only [List.mem_cons, List.not_mem_nil, or_false] at h
  rcases h with rfl | rfl | rfl <;> rfl
theorem isT_r3 {M : aM5} {c : Nat} (h : isT c) : Rof M c 9 = c + 3 := by
  unfold isT at h
  simp only [List.mem_cons, List.not_mem_nil, or_false] at h
  rcases h with rfl | rfl | rfl <;> rfl
theorem isT_a3 {c : Nat} (h : isT c) : aSh0 (c + 3) = some (.inl (1, 4200)) := by
  unfold isT at h
  simp only [List.mem_cons, List.not_mem_nil, or_false] at h
  rcases h with rfl | rfl | rfl <;> rfl
theorem isT_r4 {M : aM5} {c : Nat} (h : isT c) : Rof M c 10 = c + 4 := by
  unfold isT at h
  simp only [List.mem_cons, List.not_mem_nil, or_false] at h
  rcases h with rfl | rfl | rfl <;> rfl
theorem isT_a4 {c : Nat} (h : isT c) : aSh0 (c + 4) = some (.inl (2, 4200)) := by
  unfold isT at h
  simp only [List.mem_cons, List.not_mem_nil, or_false] at h
  rcases h with rfl | rfl | rfl <;> rfl
theorem isT_r5 {M : aM5} {c : Nat} (h : isT c) : Rof M c 11 = c + 5 := by
  unfold isT at h
  simp only [List.mem_cons, List.not_mem_nil, or_false] at h
  rcases h with rfl | rfl | rfl <;> rfl
theorem isT_a5 {c : Nat} (h : isT c) : aSh0 (c + 5) = some (.inl (1, 4200)) := by
  unfold isT at h
  simp only [List.mem_cons, List.not_mem_nil, or_false] at h
  rcases h with rfl | rfl | rfl <;> rfl
theorem isT_r6 {M : aM5} {c : Nat} (h : isT c) : Rof M c 12 = c + 6 := by
  unfold isT at h
  simp only [List.mem_cons, List.not_mem_nil, or_false] at h
  rcases h with rfl | rfl | rfl <;> rfl
theorem isT_a6 {c : Nat} (h : isT c) : aSh0 (c + 6) = some (.inl (1, 4200)) := by
  unfold isT at h
  simp only [List.mem_cons, List.not_mem_nil, or_false] at h
  rcases h with rfl | rfl | rfl <;> rfl
theorem isT_r7 {M : aM5} {c : Nat} (h : isT c) : Rof M c 13 = c + 7 := by
  unfold isT at h
  simp only [List.mem_cons, List.not_mem_nil, or_false] at h
  rcases h with rfl | rfl | rfl <;> rfl
theorem isT_a7 {c : Nat} (h : isT c) : aSh0 (c + 7) = some (.inl (1, 4200)) := by
  unfold isT at h
  simp only [List.mem_cons, List.not_mem_nil, or_false] at h
  rcases h with rfl | rfl | rfl <;> rfl
theorem isT_r8 {M : aM5} {c : Nat} (h : isT c) : Rof M c 14 = c + 8 := by
  unfold isT at h
  simp only [List.mem_cons, List.not_mem_nil, or_false] at h
  rcases h with rfl | rfl | rfl <;> rfl
theorem isT_a8 {c : Nat} (h : isT c) : aSh0 (c + 8) = some (.inl (0, 4200)) := by
  unfold isT at h
  simp only [List.mem_cons, List.not_mem_nil, or_false] at h
  rcases h with rfl | rfl | rfl <;> rfl
theorem isT_r9 {M : aM5} {c : Nat} (h : isT c) : Rof M c 18 = c + 9 := by
  unfold isT at h
  simp only [List.mem_cons, List.not_mem_nil, or_false] at h
  rcases h with rfl | rfl | rfl <;> rfl
theorem isT_a9 {c : Nat} (h : isT c) : aSh0 (c + 9) = some (.inl (1, 140)) := by
  unfold isT at h
  simp only [List.mem_cons, List.not_mem_nil, or_false] at h
  rcases h with rfl | rfl | rfl <;> rfl
theorem isT_r10 {M : aM5} {c : Nat} (h : isT c) : Rof M c 19 = c + 10 := by
  unfold isT at h
  simp only [List.mem_cons, List.not_mem_nil, or_false] at h
  rcases h with rfl | rfl | rfl <;> rfl
theorem isT_a10 {c : Nat} (h : isT c) : aSh0 (c + 10) = some (.inl (1, 140)) := by
  unfold isT at h
  simp only [List.mem_cons, List.not_mem_nil, or_false] at h
  rcases h with rfl | rfl | rfl <;> rfl
theorem isT_r11 {M : aM5} {c : Nat} (h : isT c) : Rof M c 20 = c + 11 := by
  unfold isT at h
  simp only [List.mem_cons, List.not_mem_nil, or_false] at h
  rcases h with rfl | rfl | rfl <;> rfl
theorem isT_a11 {c : Nat} (h : isT c) : aSh0 (c + 11) = some (.inl (1, 140)) := by
  unfold isT at h
  simp only [List.mem_cons, List.not_mem_nil, or_false] at h
  rcases h with rfl | rfl | rfl <;> rfl
theorem isT_r12 {M : aM5} {c : Nat} (h : isT c) : Rof M c 21 = c + 12 := by
  unfold isT at h
  simp only [List.mem_cons, List.not_mem_nil, or_false] at h
  rcases h with rfl | rfl | rfl <;> rfl
theorem isT_a12 {c : Nat} (h : isT c) : aSh0 (c + 12) = some (.inl (1, 140)) := by
  unfold isT at h
  simp only [List.mem_cons, List.not_mem_nil, or_false] at h
  rcases h with rfl | rfl | rfl <;> rfl
theorem isT_r13 {M : aM5} {c : Nat} (h : isT c) : Rof M c 22 = c + 13 := by
  unfold isT at h
  simp only [List.mem_cons, List.not_mem_nil, or_false] at h
  rcases h with rfl | rfl | rfl <;> rfl
theorem isT_a13 {c : Nat} (h : isT c) : aSh0 (c + 13) = some (.inl (1, 140)) := by
  unfold isT at h
  simp only [List.mem_cons, List.not_mem_nil, or_false] at h
  rcases h with rfl | rfl | rfl <;> rfl
theorem isT_r14 {M : aM5} {c : Nat} (h : isT c) : Rof M c 23 = c + 14 := by
  unfold isT at h
  simp only [List.mem_cons, List.not_mem_nil, or_false] at h
  rcases h with rfl | rfl | rfl <;> rfl
theorem isT_a14 {c : Nat} (h : isT c) : aSh0 (c + 14) = some (.inl (1, 140)) := by
  unfold isT at h
  simp only [List.mem_cons, List.not_mem_nil, or_false] at h
  rcases h with rfl | rfl | rfl <;> rfl
theorem isT_r15 {M : aM5} {c : Nat} (h : isT c) : Rof M c 25 = c + 15 := by
  unfold isT at h
  simp only [List.mem_cons, List.not_mem_nil, or_false] at h
  rcases h with rfl | rfl | rfl <;> rfl
theorem isT_a15 {c : Nat} (h : isT c) : aSh0 (c + 15) = some (.inl (1, 2200)) := by
  unfold isT at h
  simp only [List.mem_cons, List.not_mem_nil, or_false] at h
  rcases h with rfl | rfl | rfl <;> rfl
theorem isT_r16 {M : aM5} {c : Nat} (h : isT c) : Rof M c 26 = c + 16 := by
  unfold isT at h
  simp only [List.mem_cons, List.not_mem_nil, or_false] at h
  rcases h with rfl | rfl | rfl <;> rfl
theorem isT_a16 {c : Nat} (h : isT c) : aSh0 (c + 16) = some (.inl (1, 2200)) := by
  unfold isT at h
  simp only [List.mem_cons, List.not_mem_nil, or_false] at h
  rcases h with rfl | rfl | rfl <;> rfl
theorem isT_r17 {M : aM5} {c : Nat} (h : isT c) : Rof M c 27 = c + 17 := by
  unfold isT at h
  simp only [List.mem_cons, List.not_mem_nil, or_false] at h
  rcases h with rfl | rfl | rfl <;> rfl
theorem isT_a17 {c : Nat} (h : isT c) : aSh0 (c + 17) = some (.inl (1, 2200)) := by
  unfold isT at h
  simp only [List.mem_cons, List.not_mem_nil, or_false] at h
  rcases h with rfl | rfl | rfl <;> rfl
theorem isT_r18 {M : aM5} {c : Nat} (h : isT c) : Rof M c 28 = c + 18 := by
  unfold isT at h
  simp only [List.mem_cons, List.not_mem_nil, or_false] at h
  rcases h with rfl | rfl | rfl <;> rfl
theorem isT_a18 {c : Nat} (h : isT c) : aSh0 (c + 18) = some (.inl (1, 2200)) := by
  unfold isT at h
  simp only [List.mem_cons, List.not_mem_nil, or_false] at h
  rcases h with rfl | rfl | rfl <;> rfl
theorem isT_r19 {M : aM5} {c : Nat} (h : isT c) : Rof M c 30 = c + 19 := by
  unfold isT at h
  simp only [List.mem_cons, List.not_mem_nil, or_false] at h
  rcases h with rfl | rfl | rfl <;> rfl
theorem isT_a19 {c : Nat} (h : isT c) : aSh0 (c + 19) = some (.inl (1, 2200)) := by
  unfold isT at h
  simp only [List.mem_cons, List.not_mem_nil, or_false] at h
  rcases h with rfl | rfl | rfl <;> rfl
theorem isT_r20 {M : aM5} {c : Nat} (h : isT c) : Rof M c 32 = c + 20 := by
  unfold isT at h
  simp only [List.mem_cons, List.not_mem_nil, or_false] at h
  rcases h with rfl | rfl | rfl <;> rfl
theorem isT_a20 {c : Nat} (h : isT c) : aSh0 (c + 20) = some (.inl (0, 4200)) := by
  unfold isT at h
  simp only [List.mem_cons, List.not_mem_nil, or_false] at h
  rcases h with rfl | rfl | rfl <;> rfl
theorem isT_r21 {M : aM5} {c : Nat} (h : isT c) : Rof M c 34 = c + 21 := by
  unfold isT at h
  simp only [List.mem_cons, List.not_mem_nil, or_false] at h
  rcases h with rfl | rfl | rfl <;> rfl
theorem isT_a21 {c : Nat} (h : isT c) : aSh0 (c + 21) = some (.inl (3, 140)) := by
  unfold isT at h
  simp only [List.mem_cons, List.not_mem_nil, or_false] at h
  rcases h with rfl | rfl | rfl <;> rfl
theorem RM0 (M : aM5) (v : Nat) : a2 (Rof M) 13 11 v = Rof (v, M.2.1, M.2.2.1, M.2.2.2.1, M.2.2.2.2) := by
  refine a2_R _ _ _ _ _ (fun k i => ?_)
  unfold Rof
  by_cases h : k = 13 ∧ i = 11
  · obtain ⟨rfl, rfl⟩ := h; rfl
  · simp only [h, if_false]
theorem RM1 (M : aM5) (v : Nat) : a2 (Rof M) 46 6 v = Rof (M.1, v, M.2.2.1, M.2.2.2.1, M.2.2.2.2) := by
  refine a2_R _ _ _ _ _ (fun k i => ?_)
  unfold Rof
  by_cases h : k = 46 ∧ i = 6
  · obtain ⟨rfl, rfl⟩ := h; rfl
  · simp only [h, if_false]
theorem RM2 (M : aM5) (v : Nat) : a2 (Rof M) 52 5 v = Rof (M.1, M.2.1, v, M.2.2.2.1, M.2.2.2.2) := by
  refine a2_R _ _ _ _ _ (fun k i => ?_)
  unfold Rof
  by_cases h : k = 52 ∧ i = 5
  · obtain ⟨rfl, rfl⟩ := h; rfl
  · simp only [h, if_false]
theorem RM3 (M : aM5) (v : Nat) : a2 (Rof M) 52 6 v = Rof (M.1, M.2.1, M.2.2.1, v, M.2.2.2.2) := by
  refine a2_R _ _ _ _ _ (fun k i => ?_)
  unfold Rof
  by_cases h : k = 52 ∧ i = 6
  · obtain ⟨rfl, rfl⟩ := h; rfl
  · simp only [h, if_false]
theorem RM4 (M : aM5) (v : Nat) : a2 (Rof M) 41 3 v = Rof (M.1, M.2.1, M.2.2.1, M.2.2.2.1, v) := by
  refine a2_R _ _ _ _ _ (fun k i => ?_)
  unfold Rof
  by_cases h : k = 41 ∧ i = 3
  · obtain ⟨rfl, rfl⟩ := h; rfl
  · simp only [h, if_false]
def gA (a : Nat) (F : aRs) : aRs := if aSh0 a = some (.inl (0, alen a)) then F else none
theorem ev_gA {a : Nat} {F : aRs} {r : aOut × aT} (hr : gA a F = some r) {P : Prop} (kk : aSh0 a = some (.inl (0, alen a)) → F = some r → P) : P := by
  unfold gA at hr
  split at hr
  · exact kk ‹_› hr
  · cases hr
theorem i_neL {v w : Int32} {z : Int} (hz : w.toInt = z) (h : ¬ v = w) : v.toInt ≠ z := hz ▸ i_ne h
