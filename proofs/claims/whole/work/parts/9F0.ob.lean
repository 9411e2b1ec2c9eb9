/-! the lake's Bytes: what is put, behind what stands -/
theorem getD_l {L M : List Nat} {i : Nat} (h : i < L.length) : (L ++ M).getD i 0 = L.getD i 0 := by simp [List.getD, List.getElem?_append, h]
theorem getD_r {L M : List Nat} {i : Nat} (h : L.length ≤ i) : (L ++ M).getD i 0 = M.getD (i - L.length) 0 := by
  have : ¬ i < L.length := by omega
  simp [List.getD, List.getElem?_append, this]
def oB (c : Nat) (L : List Nat) (t : aT) : aT := (fun k i => if k = c then (if i = 1 then nI L.length else t.1 k i) else if k = c + 1 then (if i < L.length then mI (L.getD i 0) else t.1 k i) else t.1 k i, t.2)
theorem isB_al : ∀ c, isB c → alen (c + 1) < 2147483648 := by
  intro c h
  unfold isB at h
  simp only [List.mem_cons, List.not_mem_nil, or_false] at h
  rcases h with rfl | rfl | rfl | rfl | rfl | rfl | rfl | rfl | rfl | rfl | rfl | rfl | rfl <;> decide
section
variable {c : Nat} {L M W : List Nat} {t : aT}
theorem oB_I {k i : Nat} : gI (oB c L t) k i = if k = c then (if i = 1 then nI L.length else gI t k i) else if k = c + 1 then (if i < L.length then mI (L.getD i 0) else gI t k i) else gI t k i := rfl
theorem oB_n : gI (oB c L t) c 1 = nI L.length := by rw [oB_I, if_pos rfl, if_pos rfl]
theorem oB_r {i : Nat} (h : i < L.length) : gI (oB c L t) (c + 1) i = mI (L.getD i 0) := by rw [oB_I, if_neg (by omega), if_pos rfl, if_pos h]
theorem oB_o {k i : Nat} (h : k ≠ c) (h1 : k ≠ c + 1) : gI (oB c L t) k i = gI t k i := by rw [oB_I, if_neg h, if_neg h1]
theorem oB_f {i : Nat} (h : i ≠ 1) : gI (oB c L t) c i = gI t c i := by rw [oB_I, if_pos rfl, if_neg h]
theorem oB_nil : pI t c 1 0 = oB c [] t := by
  refine aT_ext (fun k i => ?_) (fun _ _ => rfl) rfl
  rw [gI_pI, oB_I]
  by_cases hk : k = c
  · subst hk
    rw [if_pos rfl]
    by_cases hi : i = 1
    · rw [if_pos ⟨rfl, hi⟩, if_pos hi]; rfl
    · rw [if_neg (fun e => hi e.2), if_neg hi]
  · rw [if_neg (fun e => hk e.1), if_neg hk]
    split
    · rw [if_neg (by simp)]
    · rfl
theorem oB_put {x : Nat} : pI (pI (oB c L t) (c + 1) L.length (mI x)) c 1 (nI (L.length + 1)) = oB c (L ++ [x]) t := by
  refine aT_ext (fun k i => ?_) (fun _ _ => rfl) rfl
  rw [gI_pI, gI_pI, oB_I, oB_I]
  have hl : (L ++ [x]).length = L.length + 1 := by simp
  rw [hl]
  by_cases hk : k = c
  · subst hk
    rw [if_pos rfl, if_pos rfl]
    by_cases hi : i = 1
    · rw [if_pos ⟨rfl, hi⟩, if_pos hi]
    · rw [if_neg (fun e => hi e.2), if_neg (by omega), if_neg hi, if_neg hi]
  · rw [if_neg (fun e => hk e.1), if_neg hk, if_neg hk]
    by_cases hk1 : k = c + 1
    · rw [if_pos hk1, if_pos hk1]
      by_cases hi : i = L.length
      · rw [if_pos ⟨hk1, hi⟩, if_pos (by omega), getD_r (by omega), hi, Nat.sub_self]
        rfl
      · rw [if_neg (fun e => hi e.2)]
        by_cases hl : i < L.length
        · rw [if_pos hl, if_pos (by omega), getD_l hl]
        · rw [if_neg hl, if_neg (by omega)]
    · rw [if_neg (fun e => hk1 e.1), if_neg hk1, if_neg hk1]
theorem Ob_put (d : Nat) (hc : isB c) {x : Nat} (hx : x < 256) (hl : L.length < alen (c + 1)) : fBy_put d c (nI x) (oB c L t) = rI 1 (oB c (L ++ [x]) t) := by
  have ha := isB_al c hc
  refine eBy_put d c _ _ hc _ ?_
  rw [oB_n]
  simp (disch := omega) only [nI_ltE]
  rw [if_pos hl, stI_n hl (by omega), nI_byte hx, wI_eq, gI_pI, if_neg (by omega), oB_n, nI_add1, oB_put]
  rfl
theorem Ob_w4 (d : Nat) (hc : isB c) {w : Nat} (hw : sWd w W) : ∀ k j L, j + k = W.length → L.length + k ≤ alen (c + 1) → fBy_putWord_4 (d + 6) c w 1 (nI j) (oB c L t) = rI 1 (oB c (L ++ W.drop j) t) := by
  have h100 := hw.2.2.2.2
  intro k
  induction k with
  | zero =>
    intro j L hj hl
    refine eBy_putWord_4 d c w _ _ _ hc _ ?_
    rw [cP_len hw]
    simp (disch := omega) only [nI_leE]
    rw [if_pos (by omega), show W.drop j = [] from List.drop_eq_nil_of_le (by omega), List.append_nil]
    rfl
  | succ k ih =>
    intro j L hj hl
    have hlt : j < W.length := by omega
    refine eBy_putWord_4 d c w _ _ _ hc _ ?_
    rw [cP_len hw]
    simp (disch := omega) only [nI_leE]
    have ihh := ih (j + 1) (L ++ [W.getD j 0]) (by omega) (by rw [List.length_append]; show L.length + 1 + k ≤ _; omega)
    have hd : W.drop j = W.getD j 0 :: W.drop (j + 1) := by
      rw [List.drop_eq_getElem_cons hlt]
      simp [List.getD, hlt]
    rw [if_neg (by omega), cP_chr hw hlt, Ob_put (d + 5) hc (by have := hw.2.2.2.1 j hlt; omega) (by omega), cG_I, nI_add1, ihh, hd, List.append_assoc]
    rfl
theorem Ob_word (d : Nat) (hc : isB c) {w : Nat} (hw : sWd w W) (hl : L.length + W.length ≤ alen (c + 1)) : fBy_putWord (d + 6) c w (oB c L t) = rI 1 (oB c (L ++ W) t) := by
  refine eBy_putWord d c w _ hc _ ?_
  exact Ob_w4 d hc hw W.length 0 L (by omega) hl
theorem Ob_at (d : Nat) (hc : isB c) {i : Nat} (hi : i < L.length) (hl : L.length ≤ alen (c + 1)) (hL : ∀ x, x ∈ L → x < 256) : fBy_at d c (nI i) (oB c L t) = rI (nI (L.getD i 0)) (oB c L t) := by
  have ha := isB_al c hc
  have hx : L.getD i 0 < 256 := by
    have : L.getD i 0 = L[i] := by simp [List.getD, hi]
    rw [this]
    exact hL _ (List.getElem_mem hi)
  refine eBy_at d c _ _ hc _ ?_
  rw [if_neg (nI_pos (by omega)), oB_n]
  simp (disch := omega) only [nI_ltE]
  rw [if_pos hi, ldI_n (by omega) (by omega), oB_r hi, mI_and hx]
  rfl
theorem Ob_row (d : Nat) (hc : isB c) {a st : Nat} (hq : L.length + M.length ≤ alen (c + 1)) (ha : aSh0 a = some (.inl (0, alen a))) (hal : st + M.length ≤ alen a) (hal2 : alen a < 2147483648) (hac : a ≠ c + 1) (hA : ∀ i, i < M.length → gI (oB c L t) a (st + i) = mI (M.getD i 0)) (hL : ∀ i, i < M.length → M.getD i 0 < 256) : fBy_putRow (d + 6) c a (nI st) (nI M.length) (oB c L t) = rI 1 (oB c (L ++ M) t) := by
  have hac2 := isB_al c hc
  refine eBy_putRow d c a _ _ _ hc _ ?_
  rw [if_neg (nI_pos (by omega)), if_neg (nI_pos (by omega))]
  unfold gA
  rw [if_pos ha, oB_n, nI_sub (by omega), nI_sub (by omega)]
  simp (disch := omega) only [nI_ltE, nI_leE]
  rw [if_neg (by omega), if_pos (by omega), if_pos ha]
  unfold cpB
  rw [if_pos ⟨nI_pos (by omega), nI_pos (by omega), nI_pos (by omega), by rw [nI_clamp (by omega), nI_clamp (by omega)]; exact hal, by rw [nI_clamp (by omega), nI_clamp (by omega)]; exact hq, fun i hi => by
    rw [nI_clamp (by omega)] at hi
    rw [nI_clamp (by omega), hA i hi]
    exact mI_fits _ (hL i hi)⟩]
  rw [nI_clamp (by omega), nI_clamp (by omega), nI_clamp (by omega)]
  simp only [wI_eq]
  have eA : ∀ k i, gI (pA (oB c L t) (c + 1) (va_cpy (gI (oB c L t) a) (gI (oB c L t) (c + 1)) st L.length M.length)) k i = if k = c + 1 then va_cpy (gI (oB c L t) a) (gI (oB c L t) (c + 1)) st L.length M.length i else gI (oB c L t) k i := by
    intro k i
    show (if k = c + 1 then va_cpy (gI (oB c L t) a) (gI (oB c L t) (c + 1)) st L.length M.length else (oB c L t).1 k) i = _
    split <;> rfl
  rw [eA, if_neg (by omega), oB_n, nI_addE]
  have : pI (pA (oB c L t) (c + 1) (va_cpy (gI (oB c L t) a) (gI (oB c L t) (c + 1)) st L.length M.length)) c 1 (nI (L.length + M.length)) = oB c (L ++ M) t := by
    refine aT_ext (fun k i => ?_) (fun _ _ => rfl) rfl
    rw [gI_pI, eA]
    by_cases hk : k = c
    · have hr : gI (oB c (L ++ M) t) k i = if i = 1 then nI (L.length + M.length) else gI t k i := by rw [oB_I, if_pos hk, List.length_append]
      rw [hr]
      by_cases hi : i = 1
      · rw [if_pos ⟨hk, hi⟩, if_pos hi]
      · rw [if_neg (fun e => hi e.2), if_neg (by omega), if_neg hi, hk, oB_f hi]
    · rw [if_neg (fun e => hk e.1)]
      by_cases hk1 : k = c + 1
      · have hr : gI (oB c (L ++ M) t) k i = if i < L.length + M.length then mI ((L ++ M).getD i 0) else gI t k i := by rw [oB_I, if_neg hk, if_pos hk1, List.length_append]
        rw [hr, if_pos hk1]
        unfold va_cpy
        by_cases h : L.length ≤ i ∧ i < L.length + M.length
        · rw [if_pos h, if_pos h.2, hA _ (by omega), getD_r h.1]
        · rw [if_neg h]
          by_cases h2 : i < L.length
          · rw [oB_r h2, if_pos (by omega), getD_l h2]
          · rw [oB_I, if_neg (by omega), if_pos rfl, if_neg h2, if_neg (by omega), hk1]
      · rw [if_neg hk1, oB_o hk hk1, oB_o hk hk1]
  rw [this]
  rfl
end
