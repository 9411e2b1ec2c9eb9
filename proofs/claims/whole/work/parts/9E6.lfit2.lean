/-! the lake's Defaults: misfit -/
section
variable {b pb qb : Nat} {q : kP} {s : aT} {T : Nat → Nat → Nat} {N : Nat → Int} {m l n : Nat} {rec : Nat → Nat → Nat} {F D : Nat}
theorem kFiA_le {R : Nat → Nat} {e : Nat} (he : e ≤ m) (hR : ∀ w, jVd T N m D w → R w ≤ m) : ∀ k lo1 cur, jTl T (jVf T N m D) k lo1 e cur → kFiA T R k cur ≤ m
  | 0, _, _, _ => Nat.zero_le _
  | k + 1, lo1, cur, h => by
    obtain ⟨hcur, e1, hP, hch⟩ := h
    subst hcur
    show (if R lo1 = 0 then kFiA T R k (T 4 lo1) else R lo1) ≤ m
    split
    · exact kFiA_le he hR k e1 _ hch
    · exact hR _ hP.1
theorem kFiM_le {R : Nat → Nat} {e : Nat} (he : e ≤ m) (hR : ∀ w, jVd T N m D w → R w ≤ m) : ∀ k lo1 cur, jTm T (jVf T N m D) k lo1 e cur → kFiM T R k cur ≤ m
  | 0, _, _, _ => Nat.zero_le _
  | k + 1, lo1, cur, h => by
    obtain ⟨hcur, hk0, hk4, e1, hP, hch⟩ := h
    subst hcur
    have es : kFiM T R (k + 1) (lo1 + 1) = if R (lo1 + 1) = 0 then kFiM T R k (T 4 (lo1 + 1)) else R (lo1 + 1) := by
      show (if R (T 4 (lo1 + 1 - 1) - 1) = 0 then kFiM T R k (T 4 (T 4 (lo1 + 1 - 1) - 1)) else R (T 4 (lo1 + 1 - 1) - 1)) = _
      rw [Nat.add_sub_cancel, hk4, show lo1 + 2 - 1 = lo1 + 1 from rfl]
    rw [es]
    split
    · exact kFiM_le he hR k e1 _ hch
    · exact hR _ hP.1
theorem kFiF_le {v y : Nat} (hv : jVd T N m (D + 1) v) (h0 : T 0 v = 0) (hR : ∀ w i, jVd T N m D w → i < q.2.1 4 y → rec w (q.2.2 1 y i - 1) ≤ m) : ∀ k i, i + k = q.2.1 4 y → kFiF T q rec v y k i ≤ m
  | 0, _, _ => Nat.zero_le _
  | k + 1, i, hi => by
    have hlt := jVd_lt hv
    show (if kMl T v (q.2.2 2 y i - 1) = 0 then v + 1 else if rec (kMl T v (q.2.2 2 y i - 1) - 1) (q.2.2 1 y i - 1) = 0 then kFiF T q rec v y k (i + 1) else rec (kMl T v (q.2.2 2 y i - 1) - 1) (q.2.2 1 y i - 1)) ≤ m
    split
    · omega
    · rename_i hz
      split
      · exact kFiF_le hv h0 hR k (i + 1) (by omega)
      · exact hR _ i (kMv_d hv h0 hz) (by omega)
theorem kFit_le (hI : kIv T m q) (hcd : kCd q) : ∀ D, kFrb T m (kFit T N q D) D N q := by
  intro D
  have hfb : ∀ x, x < q.1 1 → kFb q x < q.1 1 ∧ (6 ≤ q.2.1 0 (kFb q x) → 6 ≤ kFb q x) := by
    intro x hx
    have key : ∀ y, y < q.1 1 → (6 ≤ q.2.1 0 y → 6 ≤ y) := fun y hy h => by
      by_cases h6 : y < 6
      · have := (hI.2.1 y h6).1; omega
      · omega
    unfold kFb
    by_cases h8 : q.2.1 0 x = 8
    · rw [if_pos h8]
      have h6 := key x hx (by omega)
      have h48 := (hcd x h6 hx).1.2.2.2.1 h8
      have hx1 := (hI.2.2.2.1 x 0 h6 hx h48.1).2.2.2.1
      have hx0 := (hcd x h6 hx).2 (by omega) (by omega) 0 h48.1
      exact ⟨by omega, key _ (by omega)⟩
    · rw [if_neg h8]
      exact ⟨hx, key x hx⟩
  induction D with
  | zero =>
    intro v x hv hx
    have hlt := jVd_lt hv
    have h2 := jVd_0 hv
    show kFtB T N q (fun _ _ => 0) v (kFb q x) ≤ m
    unfold kFtB
    rw [if_neg (show ¬ T 0 v = 1 by omega), if_neg (show ¬ T 0 v = 0 by omega), if_neg (show ¬ T 0 v = 0 by omega)]
    repeat' split
    all_goals omega
  | succ D ih =>
    intro v x hv hx
    have hlt := jVd_lt hv
    obtain ⟨hy, hy6⟩ := hfb x hx
    show kFtB T N q (kFit T N q D) v (kFb q x) ≤ m
    generalize kFb q x = y at *
    have hxi : ∀ i, 6 ≤ y → i < q.2.1 4 y → q.2.2 1 y i - 1 < q.1 1 := fun i h6 hi => by
      have := (hI.2.2.2.1 y i h6 hy hi).2.2.2.1
      have := hI.1
      omega
    unfold kFtB
    split
    · rename_i h6
      split
      · rename_i h1
        have h41 := (hcd y (hy6 (by omega)) hy).1.2.2.1 (.inl h6)
        exact kFiA_le hlt.2 (fun w hw => ih w _ hw (hxi 0 (hy6 (by omega)) (by omega))) _ _ _ (jVd_l hv h1)
      · omega
    · split
      · rename_i h7
        split
        · rename_i h0
          have h41 := (hcd y (hy6 (by omega)) hy).1.2.2.1 (.inr h7)
          obtain ⟨k, hk, hch⟩ := jVd_o hv h0
          rw [hk, Nat.mul_div_cancel_left k (by omega)]
          exact kFiM_le hlt.2 (fun w hw => ih w _ hw (hxi 0 (hy6 (by omega)) (by omega))) _ _ _ hch
        · omega
      · split
        · rename_i h11
          split
          · rename_i h0
            exact kFiF_le hv h0 (fun w i hw hi => ih w _ hw (hxi i (hy6 (by omega)) hi)) _ 0 (Nat.zero_add _)
          · omega
        · split <;> omega
theorem Df_fF (hC : lCx b pb qb s) (hT : lT s T N m l) (hG : jGt T N m l n) (hI : kIv T m q) (hcd : kCd q) (hp : pb + q.1 3 ≤ 10112) (hq : qb + q.1 6 ≤ 72704) (hrec : lFy b pb qb q s T N m D F rec) (hfb : kFrb T m rec D N q) (d : Nat) {y v x3 : Nat} (hb : jVb T N m v) (hv : jVd T N m (D + 1) v) (h0 : T 0 v = 0) (h6 : 6 ≤ y) (hy : y < q.1 1) (h11 : q.2.1 0 y = 11) (h25 : x3 + 1 + D ≤ 25) : ∀ k i, i + k = q.2.1 4 y → fDf_misfitField_2 (F + d + 3) (nI v) (nI (lo b y)) (nI x3) (nI i) (lS b pb qb q s) = rI (zI (kFiF T q rec v y k i)) (lS b pb qb q s) := by
  have hm := hG.1
  have hlt := jVd_lt hv
  have hn := hI.1
  have hlty := lo_lt hC (t := y) (by omega)
  have hIs := hI.2.2.1 y h6 hy
  have h732 := hIs.2.2.2.2.2.2.2
  have h673 := hIs.2.2.2.1
  have h47 := (hcd y h6 hy).1.2.2.2.2 (by omega) (by omega)
  intro k
  induction k with
  | zero =>
    intro i hi
    refine eDf_misfitField_2 (F + d + 2) _ _ _ _ _ _ ?_
    rw [ldI_n (by omega) (by omega), lS_26 h6 hy]
    simp (disch := omega) only [nI_leE]
    rw [if_pos (by omega)]
    rfl
  | succ k ih =>
    intro i hi
    have hi4 : i < q.2.1 4 y := by omega
    have hii := hI.2.2.2.1 y i h6 hy hi4
    have hij := hI.2.2.2.2 y i h6 hy (by omega)
    have hx1 := hii.2.2.2.1
    have hxi := (hcd y h6 hy).2 (by omega) (by omega) i hi4
    have hnm : 0 < q.2.2 2 y i ∧ q.2.2 2 y i ≤ m ∧ kNam T (q.2.2 2 y i - 1) = true ∧ kPo T q (q.2.2 4 y i) (q.2.2 2 y i - 1) := by
      rcases hii.2.2.2.2.2 with h | h
      · omega
      · exact h.2
    have h30 : q.2.1 30 (q.2.1 6 y + i) = q.2.2 1 y i := by rw [hij.2.1, if_pos hi4]
    have h31 : q.2.1 31 (q.2.1 6 y + i) = q.2.2 4 y i + 1 := by rw [hij.2.2, if_pos ⟨hi4, by omega⟩]
    have hmn : fSc_memberNamed (F + d + 2) (nI v) (nI (qb + q.2.2 4 y i)) (lS b pb qb q s) = rI (zI (kMl T v (q.2.2 2 y i - 1))) (lS b pb qb q s) := Sc_mn (F + d) hT hG hq (by omega) hnm.2.2.1 hnm.2.2.2 hb h0
    have hmd : kMl T v (q.2.2 2 y i - 1) ≠ 0 → jVd T N m D (kMl T v (q.2.2 2 y i - 1) - 1) := fun h => kMv_d hv h0 h
    have ihh := ih (i + 1) (by omega)
    have es : kFiF T q rec v y (k + 1) i = (if kMl T v (q.2.2 2 y i - 1) = 0 then v + 1 else if rec (kMl T v (q.2.2 2 y i - 1) - 1) (q.2.2 1 y i - 1) = 0 then kFiF T q rec v y k (i + 1) else rec (kMl T v (q.2.2 2 y i - 1) - 1) (q.2.2 1 y i - 1)) := rfl
    rw [es]
    generalize kMl T v (q.2.2 2 y i - 1) = w at *
    refine eDf_misfitField_2 (F + d + 2) _ _ _ _ _ _ ?_
    have zq : zQ qb (q.2.2 4 y i + 1) = nI (qb + q.2.2 4 y i) := by unfold zQ; rw [if_neg (by omega)]; rfl
    have zl : zL b (q.2.2 1 y i) = nI (lo b (q.2.2 1 y i - 1)) := by unfold zL; rw [if_neg hxi]
    have c28 : gI (lS b pb qb q s) 28 (pb + q.2.1 6 y + i) = nI (qb + q.2.2 4 y i) := by rw [Nat.add_assoc, lS_28 (by omega), h31, zq]
    have c29 : gI (lS b pb qb q s) 29 (pb + q.2.1 6 y + i) = nI (lo b (q.2.2 1 y i - 1)) := by rw [Nat.add_assoc, lS_29 (by omega), h30, zl]
    rw [ldI_n (by omega) (by omega), lS_26 h6 hy]
    simp (disch := omega) only [nI_leE]
    rw [if_neg (by omega), ldI_n (by omega) (by omega), lS_25 h6 hy, nI_addE, ldI_n (by omega) (by omega), c28, hmn, cG_I]
    by_cases hz : w = 0
    · rw [if_pos hz, hz, if_neg (by decide), zI_S]
      rfl
    · have hvw := hmd hz
      have hltw := jVd_lt hvw
      have hf := hrec d (w - 1) (q.2.2 1 y i - 1) (x3 + 1) hvw (by omega) h25
      have hle := hfb (w - 1) (q.2.2 1 y i - 1) hvw (by omega)
      rw [if_neg hz, zI_pos (by omega), if_pos (nI_ne (by omega)), ldI_n (by omega) (by omega), c29, nI_add1, hf, cG_I]
      by_cases hz3 : rec (w - 1) (q.2.2 1 y i - 1) = 0
      · rw [if_pos hz3, hz3, if_pos (by decide), nI_add1, ihh]
        rfl
      · rw [if_neg hz3, if_neg (by rw [zI_pos (by omega)]; exact nI_ne (by omega))]
        rfl
theorem Df_isF (hC : lCx b pb qb s) (hT : lT s T N m l) (hG : jGt T N m l n) (hI : kIv T m q) (hcd : kCd q) (hp : pb + q.1 3 ≤ 10112) (hq : qb + q.1 6 ≤ 72704) (d : Nat) {y v : Nat} (hb : jVb T N m v) (hy : y < q.1 1) (hK : q.2.1 0 y ≤ 5 ∨ q.2.1 0 y = 9 ∨ q.2.1 0 y = 10) : fDf_isFitting (d + 2) (nI v) (nI (lo b y)) (lS b pb qb q s) = rI (if kFtL T N q v y = true then 1 else 0) (lS b pb qb q s) := by
  have hm := hG.1
  have hlt := jVb_lt hb
  have hkv := jVb_k hb
  have hn := hI.1
  have hTq := lS_T (b := b) (pb := pb) (qb := qb) (q := q) hT
  have fv := hTq.1 v (by omega)
  have hlty := lo_lt hC (t := y) (by omega)
  have hy6 : 6 ≤ q.2.1 0 y → 6 ≤ y := fun h => by
    by_cases h6 : y < 6
    · have := (hI.2.1 y h6).1; omega
    · omega
  have zk : ∀ j, j < 100 → (nI (T 0 v) = nI j) = (T 0 v = j) := fun j hj => nI_eqE (by omega) (by omega)
  have k2 : (nI (T 0 v) = 2) = (T 0 v = 2) := zk 2 (by omega)
  have k3 : (nI (T 0 v) = 3) = (T 0 v = 3) := zk 3 (by omega)
  have k4 : (nI (T 0 v) = 4) = (T 0 v = 4) := zk 4 (by omega)
  have k5 : (nI (T 0 v) = 5) = (T 0 v = 5) := zk 5 (by omega)
  have k6 : (nI (T 0 v) = 6) = (T 0 v = 6) := zk 6 (by omega)
  have fin : ∀ (P : Prop) [Decidable P] (B : Bool), B = decide P → ∀ r, (if B = true then (1 : Int32) else 0) = r → (if ¬ P then rI 0 (lS b pb qb q s) else rI 1 (lS b pb qb q s)) = rI r (lS b pb qb q s) := by
    intro P _ B hB r hr
    subst hr
    rw [hB]
    by_cases h : P
    · rw [if_neg (fun e => e h), if_pos (by simp [h])]
    · rw [if_pos h, if_neg (by simp [h])]
  refine eDf_isFitting (d + 1) _ _ _ _ ?_
  rw [ldI_n (by omega) (by omega), fv.1, ldL_n (by omega) (by omega), ldI_n (by omega) (by omega), lS_kind hC hI hy]
  simp only [k2, k3, k4, k5, k6]
  have hcase : q.2.1 0 y = 0 ∨ q.2.1 0 y = 1 ∨ q.2.1 0 y = 2 ∨ q.2.1 0 y = 3 ∨ q.2.1 0 y = 4 ∨ q.2.1 0 y = 5 ∨ q.2.1 0 y = 9 ∨ q.2.1 0 y = 10 := by omega
  rcases hcase with h | h | h | h | h | h | h | h
  · rw [h, if_pos (by decide)]
    exact fin (T 0 v = 6) _ (by unfold kFtL; simp [h]) _ rfl
  · have eL : kFtL T N q v y = decide (T 0 v = 4 ∨ T 0 v = 5) := by unfold kFtL; simp [h]
    rw [h, if_neg (by decide), if_pos (by decide), eL]
    by_cases a : T 0 v = 4
    · rw [if_pos a, if_pos (by simp [a])]
      rfl
    · rw [if_neg a]
      exact fin (T 0 v = 5) _ (by simp [a]) _ rfl
  · have eL : kFtL T N q v y = decide (T 0 v = 3 ∧ -2147483648 ≤ N v ∧ N v ≤ 2147483647) := by unfold kFtL; simp [h]
    rw [h, if_neg (by decide), if_neg (by decide), if_pos (by decide), eL]
    by_cases a : T 0 v = 3
    · have hnum := jVb_num hb a
      rw [if_neg (fun e => e a), fv.2.2.2.2.2 a]
      simp only [l_fits hnum.1 hnum.2]
      exact fin (-2147483648 ≤ N v ∧ N v ≤ 2147483647) _ (by simp [a]) _ rfl
    · rw [if_pos a, if_neg (by simp [a])]
      rfl
  · rw [h, if_neg (by decide), if_neg (by decide), if_neg (by decide), if_pos (by decide)]
    exact fin (T 0 v = 3) _ (by unfold kFtL; simp [h]) _ rfl
  · rw [h, if_neg (by decide), if_neg (by decide), if_neg (by decide), if_neg (by decide), if_pos (by decide)]
    exact fin (T 0 v = 2) _ (by unfold kFtL; simp [h]) _ rfl
  · rw [h, if_neg (by decide), if_neg (by decide), if_neg (by decide), if_neg (by decide), if_neg (by decide), if_pos (by decide)]
    exact fin (T 0 v = 2) _ (by unfold kFtL; simp [h]) _ rfl
  · have h6 := hy6 (by omega)
    have h89 := (hcd y h6 hy).1.1 h
    have h865 := (hI.2.2.1 y h6 hy).2.2.2.2.2.2.1
    have eL : kFtL T N q v y = decide (T 0 v = 2 ∧ T 2 v + 1 = q.2.1 8 y) := by unfold kFtL; simp [h]
    rw [h, if_neg (by decide), if_neg (by decide), if_neg (by decide), if_neg (by decide), if_neg (by decide), if_neg (by decide), if_neg (by decide), if_neg (by decide), if_neg (by decide), if_pos (by decide), eL]
    by_cases a : T 0 v = 2
    · have h2le : T 2 v ≤ 4096 := by have h1 := hG.2.2.2.1 v (by omega) a; have h2 := hG.2.1; omega
      have e27 : gI (lS b pb qb q s) 27 (lo b y) = nI (q.2.1 8 y - 1) := by rw [lS_27 h6 hy, if_neg (by omega), zI_pos h89]
      rw [if_neg (fun e => e a), ldI_n (by omega) (by omega), lT_Z hTq (by omega) (by omega), ldI_n (by omega) (by omega), e27]
      simp (disch := omega) only [nI_eqE]
      exact fin (T 2 v = q.2.1 8 y - 1) _ (by rw [decide_eq_decide]; omega) _ rfl
    · rw [if_pos a, if_neg (by simp [a])]
      rfl
  · have h6 := hy6 (by omega)
    have h47 := (hcd y h6 hy).1.2.2.2.2 (by omega) (by omega)
    have h732 := (hI.2.2.1 y h6 hy).2.2.2.2.2.2.2
    have eL : kFtL T N q v y = decide (T 0 v = 2 ∧ kPt T q y (q.2.1 4 y) v ≠ 0) := by unfold kFtL; simp [h]
    have hpt : fSc_partTold (d + 1) (nI (lo b y)) (nI (q.2.1 4 y)) (nI v) (lS b pb qb q s) = rI (zI (if T 0 v = 2 then kPt T q y (q.2.1 4 y) v else 0)) (lS b pb qb q s) := Sc_partTold d hC hT hG hI hq hp (by omega) hkv h6 hy (by omega)
    have hpb2 : kPt T q y (q.2.1 4 y) v ≤ 32 := by
      by_cases e : kPt T q y (q.2.1 4 y) v = 0
      · omega
      · have := kFr_1 _ _ e; unfold kPt at e ⊢; omega
    rw [h, if_neg (by decide), if_neg (by decide), if_neg (by decide), if_neg (by decide), if_neg (by decide), if_neg (by decide), if_neg (by decide), if_neg (by decide), if_neg (by decide), if_neg (by decide), if_pos (by decide), ldI_n (by omega) (by omega), lS_26 h6 hy, ← h47, hpt, cG_I, eL]
    by_cases a : T 0 v = 2
    · rw [if_pos a]
      by_cases z : kPt T q y (q.2.1 4 y) v = 0
      · rw [z, if_pos (by decide), if_neg (by simp)]
        rfl
      · rw [zI_pos (by omega), if_neg (nI_ne (by omega)), if_pos (by simp [a, z])]
        rfl
    · rw [if_neg a, if_pos (by decide), if_neg (by simp [a])]
      rfl
end
