/-! the lake's Defaults: writing what lies in a map -/
section
variable {b pb qb : Nat} {q : kP} {s : aT} {T : Nat → Nat → Nat} {N : Nat → Int} {m l n : Nat} {fit : Nat → Nat → Nat} {R : Nat → Nat → List Nat} {F D : Nat}
theorem Df_wM (hC : lCx b pb qb s) (hT : lT s T N m l) (hG : jGt T N m l n) (hI : kIv T m q) (hrec : lWy b pb qb q s T N m D F fit R) (d : Nat) {y e x3 cnt : Nat} (hcnt : cnt ≤ 4096) (h6 : 6 ≤ y) (hy : y < q.1 1) (h67 : q.2.1 0 y = 6 ∨ q.2.1 0 y = 7) (h4 : q.2.1 4 y = 1) (hx : q.2.2 1 y 0 ≠ 0) (he : e ≤ m) (h25 : x3 + 1 + D ≤ 25) : ∀ k lo1 cur i L, jTm T (jVf T N m D) k lo1 e cur → i + k = cnt → kFiM T (fun w => fit w (q.2.2 1 y 0 - 1)) k cur = 0 → qb + q.1 6 + L.length + (kWtM T (fun w => R w (q.2.2 1 y 0 - 1)) k cur ++ kVb 0).length ≤ 72704 → fDf_writeItems_44 (F + d + 8) (nI (lo b y)) (nI x3) 1 (nI cnt) (zI cur) (nI i) (lS b pb qb (kPb L q) s) = rV (lS b pb qb (kPb (L ++ (kWtM T (fun w => R w (q.2.2 1 y 0 - 1)) k cur ++ kVb 0)) q) s) := by
  have hm := hG.1
  intro k
  induction k with
  | zero =>
    intro lo1 cur i L h hi _ hq
    refine eDf_writeItems_44 (F + d + 7) _ _ _ _ _ _ _ _ ?_
    simp (disch := omega) only [nI_leE]
    rw [if_pos (by omega)]
    have hq : qb + q.1 6 + L.length + (kVb 0).length ≤ 72704 := hq
    exact Df_w80 (F + d + 6) hq
  | succ k ih =>
    intro lo1 cur i L h hi hf hq
    obtain ⟨hcur, hk0, hk4, e1, hP, hch⟩ := h
    subst hcur
    have hlt := jVd_lt hP.1
    rw [← hP.2] at hlt
    have hle := jTm_lt jVf_lt _ _ _ _ hch
    have ef : kFiM T (fun w => fit w (q.2.2 1 y 0 - 1)) (k + 1) (lo1 + 1) = if fit (lo1 + 1) (q.2.2 1 y 0 - 1) = 0 then kFiM T (fun w => fit w (q.2.2 1 y 0 - 1)) k (T 4 (lo1 + 1)) else fit (lo1 + 1) (q.2.2 1 y 0 - 1) := by
      show (if fit (T 4 (lo1 + 1 - 1) - 1) (q.2.2 1 y 0 - 1) = 0 then kFiM T (fun w => fit w (q.2.2 1 y 0 - 1)) k (T 4 (T 4 (lo1 + 1 - 1) - 1)) else fit (T 4 (lo1 + 1 - 1) - 1) (q.2.2 1 y 0 - 1)) = _
      rw [Nat.add_sub_cancel, hk4, show lo1 + 2 - 1 = lo1 + 1 from rfl]
    have ek : kWtM T (fun w => R w (q.2.2 1 y 0 - 1)) (k + 1) (lo1 + 1) = (kVb (Int64.ofNat (T 2 lo1)) ++ kLe T lo1) ++ (R (lo1 + 1) (q.2.2 1 y 0 - 1) ++ kWtM T (fun w => R w (q.2.2 1 y 0 - 1)) k (T 4 (lo1 + 1))) := by
      show (kVb (Int64.ofNat (T 2 (lo1 + 1 - 1))) ++ kLe T (lo1 + 1 - 1)) ++ (R (T 4 (lo1 + 1 - 1) - 1) (q.2.2 1 y 0 - 1) ++ kWtM T (fun w => R w (q.2.2 1 y 0 - 1)) k (T 4 (T 4 (lo1 + 1 - 1) - 1))) = _
      rw [Nat.add_sub_cancel, hk4, show lo1 + 2 - 1 = lo1 + 1 from rfl]
    rw [ef] at hf
    rw [ek] at hq ⊢
    by_cases hz : fit (lo1 + 1) (q.2.2 1 y 0 - 1) = 0
    case neg => rw [if_neg hz] at hf; exact absurd hf hz
    rw [if_pos hz] at hf
    have hll : (kVb (Int64.ofNat (T 2 lo1)) ++ kLe T lo1).length = (kVb (Int64.ofNat (T 2 lo1))).length + T 2 lo1 := by rw [List.length_append, kLe_len]
    rw [List.length_append, List.length_append, hll, List.length_append] at hq
    have hws := Df_wS (b := b) (pb := pb) (qb := qb) (s := s) (q := kPb L q) (F + d) hT hG (v := lo1) (by omega) hk0 (by rw [kPb_6]; omega)
    rw [← kPb_app] at hws
    have ihh := ih e1 _ (i + 1) ((L ++ (kVb (Int64.ofNat (T 2 lo1)) ++ kLe T lo1)) ++ R (lo1 + 1) (q.2.2 1 y 0 - 1)) hch (by omega) hf (by rw [List.length_append, List.length_append, hll, List.length_append]; omega)
    refine eDf_writeItems_44 (F + d + 7) _ _ _ _ _ _ _ _ ?_
    simp (disch := omega) only [nI_leE]
    rw [if_neg (by omega), zI_S, if_neg (nI_ne (by omega)), if_neg (by decide), hws, cG_V, ldI_n (by omega) (by omega), ((lS_T (b := b) (pb := pb) (qb := qb) (q := kPb (L ++ (kVb (Int64.ofNat (T 2 lo1)) ++ kLe T lo1)) q) hT).1 lo1 (by omega)).2.2.2.2.1, hk4, show zI (lo1 + 2) = nI (lo1 + 1) from zI_S _]
    refine Df_w61 hC hT hG hI hrec d h6 hy h67 h4 hx hP.1 h25 hz (by rw [List.length_append, hll]; omega) _ ?_
    rw [ihh]
    simp only [List.append_assoc]
    rfl
end
