/-! the classes; the simulation -/
theorem clF_ok : clF := by
  intro ci q hq
  match ci, hq with
  | 0, hq => cases hq; exact ⟨i_By, t_By, t_By_ok, n_By⟩
  | 1, hq => cases hq; exact ⟨i_Tx, t_Tx, t_Tx_ok, n_Tx⟩
  | 2, hq => cases hq; exact ⟨i_Sc, t_Sc, t_Sc_ok, n_Sc⟩
  | 3, hq => cases hq; exact ⟨i_Sr, t_Sr, t_Sr_ok, n_Sr⟩
  | 4, hq => cases hq; exact ⟨i_Df, t_Df, t_Df_ok, n_Df⟩
  | 5, hq => cases hq; exact ⟨i_Pf, t_Pf, t_Pf_ok, n_Pf⟩
  | 6, hq => cases hq; exact ⟨i_Lo, t_Lo, t_Lo_ok, n_Lo⟩
  | 7, hq => cases hq; exact ⟨i_Ma, t_Ma, t_Ma_ok, n_Ma⟩
  | 8, hq => cases hq; exact ⟨i_Te, t_Te, t_Te_ok, n_Te⟩
  | 9, hq => cases hq; exact ⟨i_Dk, t_Dk, t_Dk_ok, n_Dk⟩
  | 10, hq => cases hq; exact ⟨i_Fl, t_Fl, t_Fl_ok, n_Fl⟩
  | 11, hq => cases hq; exact ⟨i_Lk, t_Lk, t_Lk_ok, n_Lk⟩
  | 12, hq => cases hq; exact ⟨i_Mt, t_Mt, t_Mt_ok, n_Mt⟩
  | 13, hq => cases hq; exact ⟨i_Mo, t_Mo, t_Mo_ok, n_Mo⟩
  | k + 14, hq => simp [vC] at hq
theorem aSh0_lt : ∀ k z, aSh0 k = some z → k < 150 := fun k z h => (List.getElem?_eq_some_iff.mp h).1
