/-! the lake's Bytes: numbers, and a number put in before what stands -/
section
variable {c : Nat} {L : List Nat} {t : aT}
theorem Ob_vu (d : Nat) (hc : isB c) : ∀ k x j L, j + k = 10 → L.length + (kVu k (lU x)).length ≤ alen (c + 1) → fBy_putVarint_10 (d + 1) c x (nI j) (oB c L t) = rI 1 (oB c (L ++ kVu k (lU x)) t) := by
  intro k
  induction k with
  | zero =>
    intro x j L hj _
    refine eBy_putVarint_10 d c _ _ _ hc _ ?_
    have : j = 10 := by omega
    subst this
    rw [if_pos (by decide)]
    show _ = rI 1 (oB c (L ++ []) t)
    rw [List.append_nil]
  | succ k ih =>
    intro x j L hj hq
    refine eBy_putVarint_10 d c _ _ _ hc _ ?_
    have e10 : ¬ (10 : Int32) ≤ nI j := by rw [nI_lit 10, nI_leE (by omega) (by omega)]; omega
    rw [if_neg e10]
    simp only [v_hi]
    by_cases h : lU x < 128
    · have ek : kVu (k + 1) (lU x) = [lU x] := by show (if lU x < 128 then _ else _) = _; rw [if_pos h]
      rw [ek] at hq ⊢
      have hq : L.length + 1 ≤ alen (c + 1) := hq
      rw [if_neg (fun e => e h)]
      refine eBy_putVarint_22 d c _ _ _ _ hc _ ?_
      rw [if_neg (by decide)]
      refine eBy_putVarint_33 d c _ _ _ _ _ _ hc _ ?_
      have eu : (x &&& 127).toInt32 ||| 0 = nI (lU x) := by rw [v_low, Int32.or_zero, Nat.mod_eq_of_lt h]
      rw [eu, Ob_put d hc (by omega) (by omega), cG_I, if_pos (by decide), if_neg (by decide)]
      rfl
    · have ek : kVu (k + 1) (lU x) = (lU x % 128 + 128) :: kVu k (lU x / 128) := by show (if lU x < 128 then _ else _) = _; rw [if_neg h]
      rw [ek] at hq ⊢
      rw [List.length_cons] at hq
      rw [if_pos h]
      refine eBy_putVarint_22 d c _ _ _ _ hc _ ?_
      rw [if_pos (by decide)]
      refine eBy_putVarint_33 d c _ _ _ _ _ _ hc _ ?_
      have eu : (x &&& 127).toInt32 ||| 128 = nI (lU x % 128 + 128) := by rw [v_low, nI_or128 _ (by omega)]
      have ihh := ih ((x.toUInt64 >>> ((7 : Int32).toInt64.toUInt64 &&& Int64.toUInt64 63)).toInt64) (j + 1) (L ++ [lU x % 128 + 128]) (by omega) (by rw [v_sh, List.length_append]; show L.length + 1 + _ ≤ _; omega)
      rw [v_sh] at ihh
      rw [eu, Ob_put d hc (by omega) (by omega), cG_I, if_pos (by decide), if_pos rfl, nI_add1, ihh, List.append_assoc]
      rfl
theorem Ob_vi {n : Nat} (hn : 1 ≤ n) (hc : isB c) {y : Int64} (hq : L.length + (kVb y).length ≤ alen (c + 1)) : fBy_putVarint n c y (oB c L t) = rI 1 (oB c (L ++ kVb y) t) := by
  obtain ⟨d, rfl⟩ : ∃ d, n = d + 1 := ⟨n - 1, by omega⟩
  refine eBy_putVarint d c _ _ hc _ ?_
  exact Ob_vu d hc 10 _ 0 L rfl hq
theorem By_vl (d : Nat) {s : aT} : ∀ k x j i, i = j → j + k = 10 → fBy_varintBytes_12 d x (nI i) (nI j) s = rI (nI (i + (kVu (k + 1) (lU x)).length - 1)) s := by
  intro k
  induction k with
  | zero =>
    intro x j i hij hj
    refine eBy_varintBytes_12 d _ _ _ _ _ ?_
    rw [show j = 10 by omega, if_pos (by decide)]
    have : (kVu (0 + 1) (lU x)).length = 1 := by
      show (if lU x < 128 then [lU x] else (lU x % 128 + 128) :: kVu 0 (lU x / 128)).length = 1
      split <;> rfl
    rw [this]
    rfl
  | succ k ih =>
    intro x j i hij hj
    refine eBy_varintBytes_12 d _ _ _ _ _ ?_
    have e10 : ¬ (10 : Int32) ≤ nI j := by rw [nI_lit 10, nI_leE (by omega) (by omega)]; omega
    rw [if_neg e10]
    simp only [v_hi]
    by_cases h : lU x < 128
    · have ek : (kVu (k + 1 + 1) (lU x)).length = 1 := by show (if lU x < 128 then [lU x] else _).length = _; rw [if_pos h]; rfl
      rw [if_pos h, ek]
      rfl
    · have ek : (kVu (k + 1 + 1) (lU x)).length = (kVu (k + 1) (lU x / 128)).length + 1 := by show (if lU x < 128 then _ else (lU x % 128 + 128) :: kVu (k + 1) (lU x / 128)).length = _; rw [if_neg h, List.length_cons]
      have ihh := ih ((x.toUInt64 >>> ((7 : Int32).toInt64.toUInt64 &&& Int64.toUInt64 63)).toInt64) (j + 1) (i + 1) (by omega) (by omega)
      rw [v_sh] at ihh
      rw [if_neg h, nI_add1, nI_add1, ihh, ek, show i + 1 + (kVu (k + 1) (lU x / 128)).length - 1 = i + ((kVu (k + 1) (lU x / 128)).length + 1) - 1 by omega]
      rfl
theorem By_vb (d : Nat) {s : aT} (y : Int64) : fBy_varintBytes d y s = rI (nI (kVb y).length) s := by
  refine eBy_varintBytes d _ _ _ ?_
  have h := By_vl (s := s) d 9 ((y <<< ((1 : Int32).toInt64 &&& 63)) ^^^ (y >>> ((63 : Int32).toInt64 &&& 63))) 1 1 rfl rfl
  rw [show (1 : Int32) = nI 1 from rfl] at h ⊢
  have e : 1 + (kVu (9 + 1) (lU ((y <<< ((nI 1).toInt64 &&& 63)) ^^^ (y >>> ((63 : Int32).toInt64 &&& 63))))).length - 1 = (kVb y).length := by
    show 1 + (kVb y).length - 1 = _
    omega
  rw [e] at h
  exact h
theorem Ob_ins (d : Nat) (hc : isB c) {z : Nat} {y : Int64} (hz : z ≤ L.length) (hq : L.length + (kVb y).length ≤ alen (c + 1)) (hL : kBt L) : fBy_insertVarint (d + 6) c (nI z) y (oB c L t) = rV (oB c (L.take z ++ (kVb y ++ L.drop z)) t) := by
  have ha := isB_al c hc
  have hv : (kVb y).length ≤ alen (c + 1) := by omega
  refine eBy_insertVarint d c _ _ _ hc _ ?_
  rw [By_vb, cG_I, if_neg (nI_pos (by omega)), oB_n]
  simp (disch := omega) only [nI_ltE]
  rw [if_neg (by omega), nI_sub (by omega)]
  simp (disch := omega) only [nI_leE]
  rw [if_pos (by omega), nI_addE, nI_sub hz]
  unfold cpB
  rw [if_pos ⟨nI_pos (by omega), nI_pos (by omega), nI_pos (by omega), by rw [nI_clamp (by omega), nI_clamp (by omega)]; omega, by rw [nI_clamp (by omega), nI_clamp (by omega)]; omega, fun i hi => by
    rw [nI_clamp (by omega)] at hi
    rw [nI_clamp (by omega), oB_r (by omega)]
    exact mI_fits _ (kBt_g hL (by omega))⟩]
  rw [nI_clamp (by omega), nI_clamp (by omega), nI_clamp (by omega)]
  simp only [wI_eq]
  obtain ⟨u, hu⟩ : ∃ u, u = pA (oB c L t) (c + 1) (va_cpy (gI (oB c L t) (c + 1)) (gI (oB c L t) (c + 1)) z (z + (kVb y).length) (L.length - z)) := ⟨_, rfl⟩
  rw [← hu]
  have eu : ∀ k i, gI u k i = if k = c + 1 then (if z + (kVb y).length ≤ i ∧ i < z + (kVb y).length + (L.length - z) then gI (oB c L t) (c + 1) (z + (i - (z + (kVb y).length))) else gI (oB c L t) (c + 1) i) else gI (oB c L t) k i := by
    intro k i
    rw [hu]
    show (if k = c + 1 then va_cpy (gI (oB c L t) (c + 1)) (gI (oB c L t) (c + 1)) z (z + (kVb y).length) (L.length - z) else (oB c L t).1 k) i = _
    split <;> rfl
  have e1 : pI u c 1 (nI z) = oB c (L.take z) u := by
    refine aT_ext (fun k i => ?_) (fun _ _ => rfl) rfl
    rw [gI_pI, oB_I, List.length_take, Nat.min_eq_left hz]
    by_cases hk : k = c
    · rw [if_pos hk]
      by_cases hi : i = 1
      · rw [if_pos ⟨hk, hi⟩, if_pos hi]
      · rw [if_neg (fun e => hi e.2), if_neg hi]
    · rw [if_neg (fun e => hk e.1), if_neg hk]
      by_cases hk1 : k = c + 1
      · rw [if_pos hk1]
        by_cases hi : i < z
        · rw [if_pos hi, eu, if_pos hk1, if_neg (by omega), oB_r (by omega)]
          congr 1
          simp [List.getD, List.getElem?_take, hi]
        · rw [if_neg hi]
      · rw [if_neg hk1]
  have hlt : (L.take z).length = z := by rw [List.length_take, Nat.min_eq_left hz]
  rw [e1, Ob_vi (n := d + 5) (by omega) hc (by rw [hlt]; omega), cG_I, nI_addE]
  have e2 : pI (oB c (L.take z ++ kVb y) u) c 1 (nI (L.length + (kVb y).length)) = oB c (L.take z ++ (kVb y ++ L.drop z)) t := by
    have hl1 : (L.take z ++ kVb y).length = z + (kVb y).length := by rw [List.length_append, hlt]
    have hl2 : (L.take z ++ (kVb y ++ L.drop z)).length = L.length + (kVb y).length := by rw [List.length_append, List.length_append, hlt, List.length_drop]; omega
    refine aT_ext (fun k i => ?_) (fun _ _ => by rw [hu]; rfl) (by rw [hu]; rfl)
    rw [gI_pI, oB_I (t := u), oB_I (t := t), hl1, hl2]
    by_cases hk : k = c
    · rw [if_pos hk, if_pos hk]
      by_cases hi : i = 1
      · rw [if_pos ⟨hk, hi⟩, if_pos hi]
      · rw [if_neg (fun e => hi e.2), if_neg hi, if_neg hi, eu, if_neg (by omega), hk, oB_f hi]
    · rw [if_neg (fun e => hk e.1), if_neg hk, if_neg hk]
      by_cases hk1 : k = c + 1
      · rw [if_pos hk1, if_pos hk1]
        by_cases hi : i < z + (kVb y).length
        · rw [if_pos hi, if_pos (by omega), ← List.append_assoc, getD_l (L := L.take z ++ kVb y) (M := L.drop z) (by rw [hl1]; exact hi)]
        · rw [if_neg hi, eu, if_pos hk1]
          by_cases hi2 : i < L.length + (kVb y).length
          · rw [if_pos (by omega), if_pos hi2, oB_r (by omega), ← List.append_assoc, getD_r (L := L.take z ++ kVb y) (M := L.drop z) (by rw [hl1]; omega), hl1]
            congr 1
            simp [List.getD, List.getElem?_drop]
          · rw [if_neg (by omega), if_neg hi2, oB_I, if_neg (by omega), if_pos rfl, if_neg (by omega), hk1]
      · rw [if_neg hk1, if_neg hk1, eu, if_neg hk1, oB_o hk hk1]
  rw [e2]
  rfl
end
