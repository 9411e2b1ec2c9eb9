/-! PURE: where each default lies -/
def kDa (q : kP) (P : Nat) (W : List Nat) : Prop := ∃ a, q.2.1 32 P = a + 1 ∧ q.2.1 33 P = W.length ∧ a + W.length ≤ q.1 6 ∧ ∀ j, j < W.length → q.2.1 40 (a + j) = W.getD j 0
/-- a field's default -/
def kDw (T : Nat → Nat → Nat) (N : Nat → Int) (q0 : kP) (t p : Nat) : List Nat := kWt T N q0 24 (q0.2.2 3 t p - 1) (q0.2.2 1 t p - 1)
def kFe (q : kP) (t p : Nat) : Prop := 6 ≤ t ∧ t < q.1 1 ∧ q.2.1 0 t = 11 ∧ p < q.2.1 4 t
def kDl (T : Nat → Nat → Nat) (N : Nat → Int) (q0 q : kP) (i : Nat) : Prop := (∀ t p, kFe q0 t p → q0.2.2 3 t p = 0 → q.2.1 32 (q0.2.1 6 t + p) = 0) ∧ ∀ t p k, kFe q0 t p → q0.2.2 3 t p ≠ 0 → k < i → q0.2.1 15 k = q0.2.2 0 t p → kDa q (q0.2.1 6 t + p) (kDw T N q0 t p)
section
variable {T : Nat → Nat → Nat} {N : Nat → Int} {m : Nat} {q0 : kP}
theorem kFe_kid (hI : kIv T m q0) {t p t' p' : Nat} (h : kFe q0 t p) (h' : kFe q0 t' p') (e : q0.2.2 0 t p = q0.2.2 0 t' p') : t = t' ∧ p = p' := by
  have a := (hI.2.2.2.1 t p h.1 h.2.1 h.2.2.2).1
  have a' := (hI.2.2.2.1 t' p' h'.1 h'.2.1 h'.2.2.2).1
  rw [e] at a
  exact ⟨by rw [← a.2.1, a'.2.1], by rw [← a.2.2, a'.2.2]⟩
theorem kFe_part (hI : kIv T m q0) {t p t' p' : Nat} (h : kFe q0 t p) (h' : kFe q0 t' p') (e : q0.2.1 6 t + p = q0.2.1 6 t' + p') : t = t' ∧ p = p' := by
  have hs := (hI.2.2.1 t h.1 h.2.1).2.2.2.2.2.1 (.inr (by have := h.2.2.1; omega))
  have hs' := (hI.2.2.1 t' h'.1 h'.2.1).2.2.2.2.2.1 (.inr (by have := h'.2.2.1; omega))
  have h4 := h.2.2.2
  have h4' := h'.2.2.2
  have a := (hI.2.2.2.2 t p h.1 h.2.1 (by omega)).1
  have a' := (hI.2.2.2.2 t' p' h'.1 h'.2.1 (by omega)).1
  rw [e] at a
  exact ⟨by rw [← a.1, a'.1], by rw [← a.2, a'.2]⟩
theorem kTd_dl (hI : kIv T m q0) {g z : Nat → Nat} (hw : ∀ i, i < q0.1 4 → kWe T N m q0 i (g i) (z i) (g (i + 1)) (z (i + 1))) : ∀ k i q, i + k = q0.1 4 → kDl T N q0 q i → kDl T N q0 (kTd T N q0 k i q) (q0.1 4) := by
  intro k
  induction k with
  | zero =>
    intro i q hi h
    rw [show q0.1 4 = i by omega]
    exact h
  | succ k ih =>
    intro i q hi hd
    obtain ⟨t0, p0, ⟨h6, ht, h11, h4, hx⟩, h15, hle, h⟩ := hw i (by omega)
    have hf0 : kFe q0 t0 p0 := ⟨h6, ht, h11, h4⟩
    have hii := hI.2.2.2.1 t0 p0 h6 ht h4
    have eT : kTd T N q0 (k + 1) i q = if q0.2.2 3 t0 p0 = 0 then kTd T N q0 k (i + 1) q else kTd T N q0 k (i + 1) (kTs T N q0 (q0.2.1 6 t0 + p0) (q0.2.2 3 t0 p0 - 1) (q0.2.2 1 t0 p0 - 1) q) := by
      show (if q0.2.1 22 (q0.2.1 15 i) = 0 then kTd T N q0 k (i + 1) q else kTd T N q0 k (i + 1) (kTs T N q0 (q0.2.1 6 (q0.2.1 24 (q0.2.1 15 i)) + q0.2.1 25 (q0.2.1 15 i)) (q0.2.1 22 (q0.2.1 15 i) - 1) (q0.2.1 20 (q0.2.1 15 i) - 1) q)) = _
      rw [h15, hii.2.1.1, hii.2.1.2.2, hii.1.2.1, hii.1.2.2]
    rw [eT]
    by_cases hz : q0.2.2 3 t0 p0 = 0
    · rw [if_pos hz]
      refine ih (i + 1) q (by omega) ⟨hd.1, fun t p k' hf hn hk e => ?_⟩
      by_cases hki : k' = i
      · subst hki
        rw [h15] at e
        obtain ⟨rfl, rfl⟩ := kFe_kid hI hf0 hf e
        exact absurd hz hn
      · exact hd.2 t p k' hf hn (by omega) e
    · rw [if_neg hz]
      have hw0 : kDw T N q0 t0 p0 = kWt T N q0 24 (q0.2.2 3 t0 p0 - 1) (q0.2.2 1 t0 p0 - 1) := rfl
      refine ih (i + 1) _ (by omega) ⟨fun t p hf h0 => ?_, fun t p k' hf hn hk e => ?_⟩
      · have hne : ¬ q0.2.1 6 t + p = q0.2.1 6 t0 + p0 := fun e => by
          obtain ⟨rfl, rfl⟩ := kFe_part hI hf hf0 e
          exact hz h0
        rw [kTs_Q, if_neg (by omega), if_neg (by omega), if_neg (by omega)]
        exact hd.1 t p hf h0
      · by_cases hP : q0.2.1 6 t + p = q0.2.1 6 t0 + p0
        · obtain ⟨rfl, rfl⟩ := kFe_part hI hf hf0 hP
          refine ⟨q.1 6, ?_, ?_, ?_, fun j hj => ?_⟩
          · rw [kTs_Q, if_neg (by omega), if_neg (by omega), if_pos ⟨rfl, rfl⟩]
          · rw [kTs_Q, if_pos ⟨rfl, rfl⟩, hw0]
          · rw [kTs_6, hw0]; exact Nat.le_refl _
          · rw [hw0] at hj ⊢
            rw [kTs_Q, if_neg (by omega), if_pos ⟨rfl, by omega, by omega⟩, Nat.add_sub_cancel_left]
        · have hki : k' ≠ i := fun ek => by
            subst ek
            rw [h15] at e
            obtain ⟨rfl, rfl⟩ := kFe_kid hI hf0 hf e
            exact hP rfl
          obtain ⟨a, a1, a2, a3, a4⟩ := hd.2 t p k' hf hn (by omega) e
          refine ⟨a, ?_, ?_, ?_, fun j hj => ?_⟩
          · rw [kTs_Q, if_neg (by omega), if_neg (by omega), if_neg (by omega)]; exact a1
          · rw [kTs_Q, if_neg (by omega), if_neg (by omega), if_neg (by omega)]; exact a2
          · rw [kTs_6]; omega
          · rw [kTs_Q, if_neg (by omega), if_neg (by omega), if_neg (by omega)]; exact a4 j hj
/-- all defaults have their places -/
theorem kTd_all (hI : kIv T m q0) (hw : kWi T N m q0) (hcd : kCd q0) (hdn : kDn T q0) {t p : Nat} (hf : kFe q0 t p) : (q0.2.2 3 t p = 0 → (kTd T N q0 (q0.1 4) 0 q0).2.1 32 (q0.2.1 6 t + p) = 0) ∧ (q0.2.2 3 t p ≠ 0 → kDa (kTd T N q0 (q0.1 4) 0 q0) (q0.2.1 6 t + p) (kDw T N q0 t p)) := by
  obtain ⟨g, z, h0, h1, h2⟩ := hw
  have hd := kTd_dl hI h2 (q0.1 4) 0 q0 (by omega) ⟨fun t p hf h0 => by
    have hs := (hI.2.2.1 t hf.1 hf.2.1)
    have h4 := hs.2.2.2.2.2.1 (.inr (by have := hf.2.2.1; omega))
    have h5 := hf.2.2.2
    have h6 := hs.2.2.2.1
    exact hdn.1 _ (by omega), fun t p k hf hn hk => by omega⟩
  refine ⟨fun hz => hd.1 t p hf hz, fun hz => ?_⟩
  have hx := (hcd t hf.1 hf.2.1).2 (by have := hf.2.2.1; omega) (by have := hf.2.2.1; omega) p hf.2.2.2
  obtain ⟨k, hk, e⟩ := (hdn.2 t hf.1 hf.2.1).2 hf.2.2.1 p hf.2.2.2 hx
  exact hd.2 t p k hf hz hk e
end
