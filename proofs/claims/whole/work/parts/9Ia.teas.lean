/-! the lake: letters as they stand -/
section
variable {A n b pb qb m c : Nat} {B : Nat → Nat} {q : kP} {T : Nat → Nat → Nat} {t : aT} {L : List Nat}
theorem gC_B {F : aRs} (hc : isB c) : gC c 0 F = F := by
  unfold gC
  rw [if_pos (isB_sh hc)]
theorem oT_oB {a : Nat} (hc : c ≠ 52 ∧ c + 1 ≠ 52) : oT a (oB c L t) = oB c L (oT a t) := by
  refine aT_ext (fun k i => ?_) (fun _ _ => rfl) rfl
  by_cases hk : k = 52
  · subst hk
    rw [oB_o (by omega) (by omega)]
    by_cases hi : i = 0
    · rw [hi, oT_at, oT_at]
    · rw [oT_o (.inr hi), oT_o (.inr hi), oB_o (by omega) (by omega)]
  · rw [oT_o (.inl hk)]
    by_cases h1 : k = c ∨ k = c + 1
    · rw [oB_I, oB_I, oT_o (.inl hk)]
    · rw [oB_o (by omega) (by omega), oB_o (by omega) (by omega), oT_o (.inl hk)]
/-- where a Teller tells -/
def lTc (A : Nat) (B : Nat → Nat) (n c : Nat) (t : aT) : Prop := lTi A B n t ∧ gM3 t = c ∧ isB c ∧ (c = 5 ∨ c = 7) ∧ (A ≠ c ∧ A ≠ c + 1) ∧ aSh0 A = some (.inl (0, alen A))
theorem lTc_i (h : lTc A B n c t) : lTi A B n (oB c L t) := by
  obtain ⟨⟨h1, h2, h3, h4, h5⟩, _, _, hc, hA, _⟩ := h
  exact ⟨h1, by rw [oB_o (by omega) (by omega)]; exact h2, h3, fun i hi => by rw [oB_o (by omega) (by omega)]; exact h4 i hi, h5⟩
theorem lTc_W (h : lTc A B n c t) (hw : lW b pb qb q T m t) : lW b pb qb q T m (oB c L t) := lW_fr (fun k i h1 h2 => oB_o (by have := h.2.2.2.1; omega) (by have := h.2.2.2.1; omega)) hw
/-- what telling leaves: letters told, or an error -/
def lTl (c : Nat) (t : aT) (F : aRs) (L M : List Nat) (b : Bool) (e : Nat) : Prop := if L.length + M.length ≤ alen (c + 1) then (if b = true then F = rI 0 (oT e (oB c (L ++ M) t)) else ∃ a' L', F = rI (-20) (oT a' (oB c L' t))) else ∃ a' L', F = rI (-31) (oT a' (oB c L' t))
theorem Te_as (h : lTc A B n c t) (hw : lW b pb qb q T m t) (hl : L.length ≤ alen (c + 1)) (d : Nat) {D x a e : Nat} (hD : D ≤ 32) (hx : x < q.1 1) (hk : kWq q B n D x a e) : lTl c t (fTe_asItIs (2 * D + d + 10) (nI (lo b x)) (oT a (oB c L t))) L (kTp B a (e - a)) true e := by
  have hle := kWq_le hk
  have hn := h.1.2.2.1
  have hB := h.1.2.2.2.2
  have hc := h.2.2.2.1
  have hsk := Te_sk (lTc_i (L := L) h) (lTc_W h hw) D (d + 6) x 0 a e hx (by omega) hk
  rw [show 2 * D + 3 + (d + 6) = 2 * D + d + 9 by omega] at hsk
  have go : ∀ r, cG (fBy_putRow (2 * D + d + 9) c A (nI a) (nI (e - a)) (oB c L (oT e t))) (kI fun v4 s3 => if v4 = 0 then rI (-31) s3 else rI 0 s3) = some r → fTe_asItIs (2 * D + d + 10) (nI (lo b x)) (oT a (oB c L t)) = some r := by
    intro r hr
    refine eTe_asItIs (2 * D + d + 9) _ _ _ ?_
    have hsk2 : fTe_skip (2 * D + d + 9) (nI (lo b x)) 0 (oT a (oB c L t)) = rV (oT e (oB c L t)) := hsk
    have g3 : gM3 (oT e (oB c L t)) = c := h.2.1
    have g2 : gM2 (oT e (oB c L t)) = A := h.1.1.1
    rw [hsk2, cG_V, g3, g2, gC_B h.2.2.1, oT_at, oT_at, nI_sub hle.1, oT_oB (by omega)]
    exact hr
  have hM : (kTp B a (e - a)).length = e - a := kTp_len
  unfold lTl
  rw [hM]
  by_cases hq : L.length + (e - a) ≤ alen (c + 1)
  · rw [if_pos hq, if_pos rfl]
    have hrow := Ob_row (M := kTp B a (e - a)) (L := L) (t := oT e t) (2 * D + d + 3) h.2.2.1 (a := A) (st := a) (by rw [hM]; exact hq) h.2.2.2.2.2 (by rw [hM]; omega) hn.2 h.2.2.2.2.1.2 (fun i hi => by
      rw [hM] at hi
      rw [oB_o h.2.2.2.2.1.1 h.2.2.2.2.1.2, oT_o (.inl h.1.1.2), h.1.2.2.2.1 _ (by omega)]
      unfold kTp
      rw [List.getD_eq_getElem?_getD, List.getElem?_map, List.getElem?_range hi]
      rfl) (fun i hi => by
      rw [hM] at hi
      unfold kTp
      rw [List.getD_eq_getElem?_getD, List.getElem?_map, List.getElem?_range hi]
      exact hB _)
    rw [hM, show 2 * D + d + 3 + 6 = 2 * D + d + 9 by omega] at hrow
    refine go _ ?_
    rw [hrow, cG_I, if_neg (by decide), oT_oB (by omega)]
    rfl
  · rw [if_neg hq]
    have hrow := Ob_rowF (t := oT e t) (2 * D + d + 3) h.2.2.1 (a := A) (st := a) (k := e - a) hl (by omega) h.2.2.2.2.2 (by omega) hn.2
    rw [show 2 * D + d + 3 + 6 = 2 * D + d + 9 by omega] at hrow
    refine ⟨e, L, go _ ?_⟩
    rw [hrow, cG_I, if_pos rfl, oT_oB (by omega)]
    rfl
end
