/-! the fresh objects, in the contracts' own letters -/
abbrev nr_lk (a : Nat → Nat) : Nat → Nat := fun i => [a 0, a 2, a 4, a 6, a 8, a 10, a 12, a 21, a 36, a 40, a 45, a 48, a 51, a 55, a 57, 0, 0].getD i 0
abbrev nr_tx (a : Nat → Nat) : Nat → Nat := fun i => [a 13, a 14, a 15, a 16, a 17, a 18, a 19, 0, 0, 0, 0, a 20, 0, 0, 0].getD i 0
abbrev nr_sc (a : Nat → Nat) : Nat → Nat := fun i => [a 22, a 23, a 24, a 25, a 26, a 27, a 28, a 29, a 30, a 31, a 33, 0, a 34, a 35, 0, 0, 0, 0].getD i 0
abbrev nr_de (a : Nat → Nat) : Nat → Nat := fun i => [a 12, a 21, a 38, a 39, 0].getD i 0
abbrev nr_fl (a : Nat → Nat) : Nat → Nat := fun i => [a 58, a 59, a 60, a 61, a 62, a 63, a 65].getD i 0
abbrev nr_mo (am : Nat → Nat) : Nat → Nat := fun i => [0, am 0, 0, 0, am 1, am 23, am 45, am 67, 0, am 68, 0, 0, 0, 0, am 69, am 70, am 71, am 72, am 73, am 74, am 75, am 76, 0, 0, 0, 0, 0, 0, am 77, am 78, 0, 0, 0, am 79, am 80].getD i 0
abbrev nr_mt (am : Nat → Nat) : Nat → Nat := fun i => [am 2, 0, 0, 0, 0, 0, 0, 0, am 3, am 4, am 5, am 6, am 7, am 8, am 9, 0, 0, 0, am 10, am 11, am 12, am 13, am 14, am 15, 0, am 16, am 17, am 18, am 19, 0, am 20, 0, am 21, 0, am 22].getD i 0
abbrev z_tx : Nat → Int32 := fun i => ([0, 0, 0, 0, 0, 0, 0, 0, 0, 0, 0, 0, 0, 0, 0] : List Int32).getD i 0
abbrev z_sc : Nat → Int32 := fun i => ([0, 0, 0, 0, 0, 0, 0, 0, 0, 0, 0, 6, 0, 0, 6, 0, 0, 0] : List Int32).getD i 0
abbrev z_sr : Nat → Int32 := fun i => ([0, (-1), 0, 0, 0, 0] : List Int32).getD i 0
abbrev z_de : Nat → Int32 := fun i => ([0, 0, 0, 0, 0] : List Int32).getD i 0
abbrev z_mo : Nat → Int32 := fun i => ([0, 0, 0, (-1), 0, 0, 0, 0, 0, 0, 0, 0, (-1), 0, 0, 0, 0, 0, 0, 0, 0, 0, 0, 0, 0, 0, 0, 0, 0, 0, 0, 0, 0, 0, 0] : List Int32).getD i 0
abbrev z_mt : Nat → Int32 := fun i => ([0, 0, 0, 0, 0, 0, 0, 0, 0, 0, 0, 0, 0, 0, 0, 0, 0, 0, 0, 0, 0, 0, 0, 0, 0, 0, 0, 0, 0, 0, 0, 0, 0, 0, 0] : List Int32).getD i 0
abbrev wAll (h0 hm ou : Nat) (a am : Nat → Nat) (kA : Nat → ClassId) : va_W := wLk0 h0 a kA ++ wMo0 hm am kA ++ [(ou, .inl (kA 2, 1, .inr (.inl (fun _ => 0))))]
theorem i_any (x : Int32) : x < 0 ∨ ¬ x < 0 := Decidable.em _
theorem i_four {x : Int32} (h : ¬ (x < 0 ∨ ¬ x < 4)) : ∃ k : Nat, k < 4 ∧ x = nI k := by
  obtain ⟨j, hj, e⟩ := nI_of (fun h1 => h (Or.inl h1))
  have h4 : x < 4 := Decidable.not_not.mp (fun h1 => h (Or.inr h1))
  rw [e] at h4
  exact ⟨j, (nI_ltI hj (by decide)).mp (show nI j < nI 4 from h4), e⟩
theorem i_zero {x : Int32} (h : ¬ (x < 0 ∨ ¬ x ≤ nI 0)) : x = nI 0 := by
  obtain ⟨j, hj, e⟩ := nI_of (fun h1 => h (Or.inl h1))
  have h4 : x ≤ nI 0 := Decidable.not_not.mp (fun h1 => h (Or.inr h1))
  rw [e] at h4
  have := (nI_leI hj (by decide)).mp h4
  rw [e, show j = 0 by omega]
theorem i_three {x : Int32} (h : ¬ (x < 0 ∨ ¬ x ≤ 2)) : x = 0 ∨ x = 1 ∨ x = 2 := by
  obtain ⟨j, hj, e⟩ := nI_of (fun h1 => h (Or.inl h1))
  have h4 : x ≤ 2 := Decidable.not_not.mp (fun h1 => h (Or.inr h1))
  rw [e] at h4
  have := (nI_leI hj (by decide)).mp (show nI j ≤ nI 2 from h4)
  rcases (show j = 0 ∨ j = 1 ∨ j = 2 by omega) with rfl | rfl | rfl
  · exact Or.inl e
  · exact Or.inr (Or.inl e)
  · exact Or.inr (Or.inr e)
theorem i_none (x i : Int32) : (if x = 0 then by_at ((0, fun _ => 0) : Nat × (Nat → Int32)) i else by_at ((0, fun _ => 0) : Nat × (Nat → Int32)) i) = -1 := by
  have h : by_at ((0, fun _ => 0) : Nat × (Nat → Int32)) i = -1 := by
    unfold by_at
    simp
  rw [h, ite_self]
