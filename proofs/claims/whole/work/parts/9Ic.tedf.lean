/-! the lake: a default -/
section
variable {A n b pb qb m c : Nat} {B : Nat → Nat} {q : kP} {T : Nat → Nat → Nat} {t : aT} {L : List Nat}
theorem Te_df (h : lTc A B n c t) (hw : lW b pb qb q T m t) (hl : L.length ≤ alen (c + 1)) (d : Nat) {y j a : Nat} (hy : y < q.1 1) (y11 : q.2.1 0 y = 11) (hj : j < q.2.1 4 y) {W : List Nat} (hW : kBt W) (hda : kDa q (q.2.1 6 y + j) W) : lTl c t (fTe_defaultOf (d + 7) (nI (pb + (q.2.1 6 y + j))) (oT a (oB c L t))) L W true a := by
  have hc := h.2.2.2.1
  have h28 := lW_28 hw hy (by omega) hj
  have ww : lW b pb qb q T m (oT a (oB c L t)) := oT_W (lTc_W h hw)
  obtain ⟨P, p1, p2, p3⟩ := hw.1.2.1
  obtain ⟨a0, d1, d2, d3, d4⟩ := hda
  have g := ww.1.2.2.2.2.1 _ h28.2.2.2.1
  have g30 : gI (oT a (oB c L t)) 30 (pb + (q.2.1 6 y + j)) = nI (qb + a0) := by
    rw [g.2.2.1, d1]
    unfold zQ
    rw [if_neg (by omega)]
    rfl
  have g31 : gI (oT a (oB c L t)) 31 (pb + (q.2.1 6 y + j)) = nI W.length := by rw [g.2.2.2, d2]
  have a33 : alen 33 = 72704 := rfl
  have go : ∀ r, cG (fBy_putRow (d + 6) c 33 (nI (qb + a0)) (nI W.length) (oB c L (oT a t))) (kI fun v6 s5 => if v6 = 0 then rI (-31) s5 else rI 0 s5) = some r → fTe_defaultOf (d + 7) (nI (pb + (q.2.1 6 y + j))) (oT a (oB c L t)) = some r := by
    intro r hr
    refine eTe_defaultOf (d + 6) _ _ _ ?_
    have g3 : gM3 (oT a (oB c L t)) = c := h.2.1
    rw [ldI_n h28.2.2.1 (by omega), g30, if_pos (nI_nm (by omega)), ldI_n h28.2.2.1 (by omega), g30, ldI_n h28.2.2.1 (by omega), g31, g3, gC_B h.2.2.1, oT_oB (by omega)]
    exact hr
  have hWb : ∀ i, i < W.length → W.getD i 0 < 256 := fun i hi => by
    rw [List.getD_eq_getElem?_getD, List.getElem?_eq_getElem hi]
    exact hW _ (List.getElem_mem hi)
  unfold lTl
  by_cases hq : L.length + W.length ≤ alen (c + 1)
  · rw [if_pos hq, if_pos rfl]
    have hrow := Ob_row (M := W) (L := L) (t := oT a t) d h.2.2.1 (a := 33) (st := qb + a0) hq rfl (by omega) (by omega) (by omega) (fun i hi => by
      rw [oB_o (by omega) (by omega), oT_o (by omega), Nat.add_assoc, hw.1.2.2.2.2.2 _ (by omega), d4 i hi]) hWb
    refine go _ ?_
    rw [hrow, cG_I, if_neg (by decide), oT_oB (by omega)]
    rfl
  · rw [if_neg hq]
    have hrow := Ob_rowF (t := oT a t) (L := L) d h.2.2.1 (a := 33) (st := qb + a0) (k := W.length) hl (by omega) rfl (by omega) (by omega)
    refine ⟨a, L, go _ ?_⟩
    rw [hrow, cG_I, if_pos rfl, oT_oB (by omega)]
    rfl
end
