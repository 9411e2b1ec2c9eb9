/-! the lake's Defaults: writing a record's fields -/
section
variable {b pb qb : Nat} {q : kP} {s : aT} {T : Nat → Nat → Nat} {N : Nat → Int} {m l n : Nat} {fit : Nat → Nat → Nat} {R : Nat → Nat → List Nat} {F D : Nat}
theorem Df_wF (hC : lCx b pb qb s) (hT : lT s T N m l) (hG : jGt T N m l n) (hI : kIv T m q) (hcd : kCd q) (hp : pb + q.1 3 ≤ 10112) (hrec : lWy b pb qb q s T N m D F fit R) (d : Nat) {y v x3 : Nat} (hb : jVb T N m v) (hv : jVd T N m (D + 1) v) (h0 : T 0 v = 0) (h6 : 6 ≤ y) (hy : y < q.1 1) (h11 : q.2.1 0 y = 11) (h25 : x3 + 1 + D ≤ 25) : ∀ k i L, i + k = q.2.1 4 y → kFiF T q fit v y k i = 0 → qb + q.1 6 + L.length + (kWtF T q R v y k i).length ≤ 72704 → fDf_writeFields_2 (F + d + 8) (nI v) (nI (lo b y)) (nI x3) (nI i) (lS b pb qb (kPb L q) s) = rV (lS b pb qb (kPb (L ++ kWtF T q R v y k i) q) s) := by
  have hm := hG.1
  have hlt := jVd_lt hv
  have hn := hI.1
  have hlty := lo_lt hC (t := y) (by omega)
  have hIs := hI.2.2.1 y h6 hy
  have h732 := hIs.2.2.2.2.2.2.2
  have h673 := hIs.2.2.2.1
  have h47 := (hcd y h6 hy).1.2.2.2.2 (by omega) (by omega)
  have c1 : ∀ L, (kPb L q).1 1 = q.1 1 := fun L => rfl
  have c3 : ∀ L, (kPb L q).1 3 = q.1 3 := fun L => rfl
  intro k
  induction k with
  | zero =>
    intro i L hi _ hq
    refine eDf_writeFields_2 (F + d + 7) _ _ _ _ _ _ ?_
    rw [ldI_n (by omega) (by omega), lS_26 h6 (by rw [c1]; exact hy), kPb_Q (by omega)]
    simp (disch := omega) only [nI_leE]
    rw [if_pos (by omega)]
    show _ = rV (lS b pb qb (kPb (L ++ []) q) s)
    rw [List.append_nil]
  | succ k ih =>
    intro i L hi hf hq
    have hi4 : i < q.2.1 4 y := by omega
    have hIp := kIv_pb (L := L) hI
    have hii := hIp.2.2.2.1 y i h6 hy (by rw [kPb_Q (by omega)]; exact hi4)
    have hij := hI.2.2.2.2 y i h6 hy (by omega)
    have hx1 := (hI.2.2.2.1 y i h6 hy hi4).2.2.2.1
    have hxi := (hcd y h6 hy).2 (by omega) (by omega) i hi4
    have hnm : 0 < q.2.2 2 y i ∧ q.2.2 2 y i ≤ m ∧ kNam T (q.2.2 2 y i - 1) = true ∧ kPo T (kPb L q) (q.2.2 4 y i) (q.2.2 2 y i - 1) := by
      rcases hii.2.2.2.2.2 with h | h
      · have := h.1; rw [kPb_Q (by omega)] at this; omega
      · exact h.2
    have h30 : q.2.1 30 (q.2.1 6 y + i) = q.2.2 1 y i := by rw [hij.2.1, if_pos hi4]
    have h31 : q.2.1 31 (q.2.1 6 y + i) = q.2.2 4 y i + 1 := by rw [hij.2.2, if_pos ⟨hi4, by omega⟩]
    have ef : kFiF T q fit v y (k + 1) i = (if kMl T v (q.2.2 2 y i - 1) = 0 then v + 1 else if fit (kMl T v (q.2.2 2 y i - 1) - 1) (q.2.2 1 y i - 1) = 0 then kFiF T q fit v y k (i + 1) else fit (kMl T v (q.2.2 2 y i - 1) - 1) (q.2.2 1 y i - 1)) := rfl
    have ek : kWtF T q R v y (k + 1) i = (if kMl T v (q.2.2 2 y i - 1) = 0 then [] else R (kMl T v (q.2.2 2 y i - 1) - 1) (q.2.2 1 y i - 1)) ++ kWtF T q R v y k (i + 1) := rfl
    rw [ef] at hf
    rw [ek] at hq ⊢
    have hmd : kMl T v (q.2.2 2 y i - 1) ≠ 0 → jVd T N m D (kMl T v (q.2.2 2 y i - 1) - 1) := fun h => kMv_d hv h0 h
    have hmn : fSc_memberNamed (F + d + 7) (nI v) (nI (qb + q.2.2 4 y i)) (lS b pb qb (kPb L q) s) = rI (zI (kMl T v (q.2.2 2 y i - 1))) (lS b pb qb (kPb L q) s) := Sc_mn (F + d + 5) hT hG (by rw [kPb_6]; omega) (by omega) hnm.2.2.1 hnm.2.2.2 hb h0
    generalize kMl T v (q.2.2 2 y i - 1) = w at *
    by_cases hz : w = 0
    · rw [if_pos hz] at hf; omega
    rw [if_neg hz] at hf hq ⊢
    have hvw := hmd hz
    have hltw := jVd_lt hvw
    by_cases hz3 : fit (w - 1) (q.2.2 1 y i - 1) = 0
    case neg => rw [if_neg hz3] at hf; exact absurd hf hz3
    rw [if_pos hz3] at hf
    rw [List.length_append] at hq
    have hwr := hrec d L (w - 1) (q.2.2 1 y i - 1) (x3 + 1) hvw (by omega) h25 hz3 (by omega)
    have ihh := ih (i + 1) (L ++ R (w - 1) (q.2.2 1 y i - 1)) (by omega) hf (by rw [List.length_append]; omega)
    have zq : zQ qb (q.2.2 4 y i + 1) = nI (qb + q.2.2 4 y i) := by unfold zQ; rw [if_neg (by omega)]; rfl
    have zl : zL b (q.2.2 1 y i) = nI (lo b (q.2.2 1 y i - 1)) := by unfold zL; rw [if_neg hxi]
    have c28 : gI (lS b pb qb (kPb L q) s) 28 (pb + q.2.1 6 y + i) = nI (qb + q.2.2 4 y i) := by rw [Nat.add_assoc, lS_28 (by rw [c3]; omega), kPb_Q (by omega), h31, zq]
    have c29 : gI (lS b pb qb (kPb L q) s) 29 (pb + q.2.1 6 y + i) = nI (lo b (q.2.2 1 y i - 1)) := by rw [Nat.add_assoc, lS_29 (by rw [c3]; omega), kPb_Q (by omega), h30, zl]
    refine eDf_writeFields_2 (F + d + 7) _ _ _ _ _ _ ?_
    rw [ldI_n (by omega) (by omega), lS_26 h6 (by rw [c1]; exact hy), kPb_Q (by omega)]
    simp (disch := omega) only [nI_leE]
    rw [if_neg (by omega), ldI_n (by omega) (by omega), lS_25 h6 (by rw [c1]; exact hy), kPb_Q (by omega), nI_addE, ldI_n (by omega) (by omega), c28, hmn, cG_I, zI_pos (by omega), if_neg (nI_ne (by omega)), ldI_n (by omega) (by omega), c29, nI_add1, hwr, cG_V]
    refine eDf_writeFields_43 (F + d + 7) _ _ _ _ _ _ ?_
    rw [nI_add1, ihh, List.append_assoc]
    rfl
end
