/-! the reference: letters that are told -/
/-- what has been told -/
def oU (L : List Nat) (t : aT) : aT := (fun k i => if k = 67 ∧ i = 22 then nI L.length else if k = 144 ∧ i < L.length then mI (L.getD i 0) else t.1 k i, t.2)
section
variable {t : aT} {L : List Nat}
theorem oU_I {k i : Nat} : gI (oU L t) k i = if k = 67 ∧ i = 22 then nI L.length else if k = 144 ∧ i < L.length then mI (L.getD i 0) else gI t k i := rfl
theorem oU_n : gI (oU L t) 67 22 = nI L.length := by rw [oU_I, if_pos ⟨rfl, rfl⟩]
theorem oU_o {k i : Nat} (h : k ≠ 144) (h2 : k ≠ 67 ∨ i ≠ 22) : gI (oU L t) k i = gI t k i := by rw [oU_I, if_neg (by omega), if_neg (by omega)]
theorem oU_put {x : Nat} : pI (pI (oU L t) 144 L.length (mI x)) 67 22 (nI (L.length + 1)) = oU (L ++ [x]) t := by
  have hl : (L ++ [x]).length = L.length + 1 := by simp
  refine aT_ext (fun k i => ?_) (fun _ _ => rfl) rfl
  rw [gI_pI, gI_pI, oU_I, oU_I, hl]
  by_cases h0 : k = 67 ∧ i = 22
  · rw [if_pos h0, if_pos h0]
  · rw [if_neg h0, if_neg h0, if_neg h0]
    by_cases h1 : k = 144 ∧ i = L.length
    · rw [if_pos h1, if_pos (show k = 144 ∧ i < L.length + 1 by omega), h1.2, getD_r (Nat.le_refl _), Nat.sub_self]
      rfl
    · rw [if_neg h1]
      by_cases h2 : k = 144 ∧ i < L.length
      · rw [if_pos h2, if_pos (show k = 144 ∧ i < L.length + 1 by omega), getD_l h2.2]
      · rw [if_neg h2, if_neg (show ¬ (k = 144 ∧ i < L.length + 1) by omega)]
/-- a letter is told -/
theorem Mo_tb (d : Nat) {R : Nat} (hR : gI t 67 32 = nI R) (hR2 : R ≤ 4200) {x : Int32} {k : Nat} (hx : vp_nar .byte x.toInt8.toInt32 = mI k) (hl : L.length < R) : fMo_tellByte (d + 1) x (oU L t) = rV (oU (L ++ [k]) t) := by
  refine eMo_tellByte d _ _ _ ?_
  rw [oU_n, oU_o (by omega) (by omega), hR, if_pos (show ¬ nI L.length = nI R by rw [nI_eqE (by omega) (by omega)]; omega)]
  refine eMo_tellByte_9 d _ _ _ ?_
  rw [hx, oU_n, stI_n (by omega) (by omega), wI_eq, gI_pI, if_neg (by omega), oU_n, nI_add1, oU_put]
  rfl
/-- there is no room -/
theorem Mo_tbF (d : Nat) {R : Nat} (hR : gI t 67 32 = nI R) (hl : L.length = R) {x : Int32} : ∃ t', fMo_tellByte (d + 1) x (oU L t) = rT 0 t' ∧ gI t' 67 24 = nI 31 := by
  have hf : fMo_failBytes d 31 0 (oU L t) = rT 0 (pU (pI (pI (oU L t) 67 24 31) 67 25 0)) := eMo_failBytes d _ _ _ _ rfl
  refine ⟨pU (pI (pI (oU L t) 67 24 31) 67 25 0), eMo_tellByte d _ _ _ ?_, ?_⟩
  · rw [oU_n, oU_o (by omega) (by omega), hR, hl, if_neg (fun e => e rfl), hf, cG_T]
    rfl
  · show gI (pI (pI (oU L t) 67 24 31) 67 25 0) 67 24 = nI 31
    rw [gI_pI, if_neg (by omega), gI_pI, if_pos ⟨rfl, rfl⟩]
    rfl
end
