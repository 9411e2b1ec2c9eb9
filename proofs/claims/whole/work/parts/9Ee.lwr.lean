/-! the lake's Defaults: writing what lies in a list -/
section
variable {b pb qb : Nat} {q : kP} {s : aT} {T : Nat → Nat → Nat} {N : Nat → Int} {m l n : Nat} {fit : Nat → Nat → Nat} {R : Nat → Nat → List Nat} {F D : Nat}
theorem kPb_Q {L : List Nat} {r i : Nat} (h : r ≠ 40) : (kPb L q).2.1 r i = q.2.1 r i := by
  show (if r = 40 ∧ q.1 6 ≤ i ∧ i < q.1 6 + L.length then _ else q.2.1 r i) = _
  rw [if_neg (fun e => h e.1)]
/-- what is known about the values inside -/
def lWy (b pb qb : Nat) (q : kP) (s : aT) (T : Nat → Nat → Nat) (N : Nat → Int) (m D F : Nat) (fit : Nat → Nat → Nat) (R : Nat → Nat → List Nat) : Prop := ∀ d L v x x3, jVd T N m D v → x < q.1 1 → x3 + D ≤ 25 → fit v x = 0 → qb + q.1 6 + L.length + (R v x).length ≤ 72704 → fDf_write (F + d + 7) (nI v) (nI (lo b x)) (nI x3) (lS b pb qb (kPb L q) s) = rV (lS b pb qb (kPb (L ++ R v x) q) s)
theorem Df_w80 (d : Nat) {L : List Nat} (hq : qb + q.1 6 + L.length + (kVb 0).length ≤ 72704) : fDf_writeItems_80 (d + 2) (lS b pb qb (kPb L q) s) = rV (lS b pb qb (kPb (L ++ kVb 0) q) s) := by
  refine eDf_writeItems_80 (d + 1) _ _ ?_
  rw [Lp_vi d (by rw [kPb_6]; omega), cG_I, kPb_app]
  rfl
theorem Df_w61 (hC : lCx b pb qb s) (hT : lT s T N m l) (hG : jGt T N m l n) (hI : kIv T m q) (hrec : lWy b pb qb q s T N m D F fit R) (d : Nat) {y w i x3 : Nat} {z4 z5 : Int32} {L : List Nat} (h6 : 6 ≤ y) (hy : y < q.1 1) (h67 : q.2.1 0 y = 6 ∨ q.2.1 0 y = 7) (h4 : q.2.1 4 y = 1) (hx : q.2.2 1 y 0 ≠ 0) (hw : jVd T N m D w) (h25 : x3 + 1 + D ≤ 25) (hf : fit w (q.2.2 1 y 0 - 1) = 0) (hq : qb + q.1 6 + L.length + (R w (q.2.2 1 y 0 - 1)).length ≤ 72704) : ∀ r, fDf_writeItems_44 (F + d + 8) (nI (lo b y)) (nI x3) z4 z5 (zI (T 4 w)) (nI (i + 1)) (lS b pb qb (kPb (L ++ R w (q.2.2 1 y 0 - 1)) q) s) = some r → fDf_writeItems_61 (F + d + 8) (nI (lo b y)) (nI x3) z4 z5 (nI w) (nI i) (lS b pb qb (kPb L q) s) = some r := by
  intro r hr
  have hm := hG.1
  have hlt := jVd_lt hw
  have hn := hI.1
  have hlty := lo_lt hC (t := y) (by omega)
  have hx1 := (hI.2.2.2.1 y 0 h6 hy (by omega)).2.2.2.1
  have h18 := ((hI.2.2.1 y h6 hy).2.2.2.2.1 h67).2.2
  rw [if_neg (by omega)] at h18
  have c1 : (kPb L q).1 1 = q.1 1 := rfl
  have e27 : gI (lS b pb qb (kPb L q) s) 27 (lo b y) = nI (lo b (q.2.2 1 y 0 - 1)) := by
    rw [lS_27 h6 (by rw [c1]; exact hy), kPb_Q (by omega), kPb_Q (by omega), if_pos h67, h18]
    unfold zL
    rw [if_neg hx]
  have hwr := hrec d L w (q.2.2 1 y 0 - 1) (x3 + 1) hw (by omega) h25 hf hq
  refine eDf_writeItems_61 (F + d + 7) _ _ _ _ _ _ _ _ ?_
  rw [ldI_n (by omega) (by omega), e27, nI_add1, hwr, cG_V, ldI_n (by omega) (by omega), ((lS_T (b := b) (pb := pb) (qb := qb) (q := kPb (L ++ R w (q.2.2 1 y 0 - 1)) q) hT).1 w (by omega)).2.2.2.2.1, nI_add1]
  exact hr
theorem Df_wA (hC : lCx b pb qb s) (hT : lT s T N m l) (hG : jGt T N m l n) (hI : kIv T m q) (hrec : lWy b pb qb q s T N m D F fit R) (d : Nat) {y e x3 cnt : Nat} (hcnt : cnt ≤ 4096) (h6 : 6 ≤ y) (hy : y < q.1 1) (h67 : q.2.1 0 y = 6 ∨ q.2.1 0 y = 7) (h4 : q.2.1 4 y = 1) (hx : q.2.2 1 y 0 ≠ 0) (he : e ≤ m) (h25 : x3 + 1 + D ≤ 25) : ∀ k lo1 cur i L, jTl T (jVf T N m D) k lo1 e cur → i + k = cnt → kFiA T (fun w => fit w (q.2.2 1 y 0 - 1)) k cur = 0 → qb + q.1 6 + L.length + (kWtA T (fun w => R w (q.2.2 1 y 0 - 1)) k cur ++ kVb 0).length ≤ 72704 → fDf_writeItems_44 (F + d + 8) (nI (lo b y)) (nI x3) 0 (nI cnt) (zI cur) (nI i) (lS b pb qb (kPb L q) s) = rV (lS b pb qb (kPb (L ++ (kWtA T (fun w => R w (q.2.2 1 y 0 - 1)) k cur ++ kVb 0)) q) s) := by
  have hm := hG.1
  intro k
  induction k with
  | zero =>
    intro lo1 cur i L h hi _ hq
    refine eDf_writeItems_44 (F + d + 7) _ _ _ _ _ _ _ _ ?_
    simp (disch := omega) only [nI_leE]
    rw [if_pos (by omega)]
    have hq : qb + q.1 6 + L.length + (kVb 0).length ≤ 72704 := hq
    exact Df_w80 (F + d + 6) hq
  | succ k ih =>
    intro lo1 cur i L h hi hf hq
    obtain ⟨hcur, e1, hP, hch⟩ := h
    subst hcur
    have hlt := jVd_lt hP.1
    rw [← hP.2] at hlt
    have hle := jTl_lt jVf_lt _ _ _ _ hch
    have hf : (if fit lo1 (q.2.2 1 y 0 - 1) = 0 then kFiA T (fun w => fit w (q.2.2 1 y 0 - 1)) k (T 4 lo1) else fit lo1 (q.2.2 1 y 0 - 1)) = 0 := hf
    have ek : kWtA T (fun w => R w (q.2.2 1 y 0 - 1)) (k + 1) (lo1 + 1) = R lo1 (q.2.2 1 y 0 - 1) ++ kWtA T (fun w => R w (q.2.2 1 y 0 - 1)) k (T 4 lo1) := rfl
    rw [ek] at hq ⊢
    by_cases hz : fit lo1 (q.2.2 1 y 0 - 1) = 0
    case neg => rw [if_neg hz] at hf; exact absurd hf hz
    rw [if_pos hz] at hf
    rw [List.length_append, List.length_append] at hq
    have ihh := ih e1 _ (i + 1) (L ++ R lo1 (q.2.2 1 y 0 - 1)) hch (by omega) hf (by rw [List.length_append, List.length_append]; omega)
    refine eDf_writeItems_44 (F + d + 7) _ _ _ _ _ _ _ _ ?_
    simp (disch := omega) only [nI_leE]
    rw [if_neg (by omega), zI_S, if_neg (nI_ne (by omega)), if_pos trivial]
    refine Df_w61 hC hT hG hI hrec d h6 hy h67 h4 hx hP.1 h25 hz (by omega) _ ?_
    rw [ihh, List.append_assoc, List.append_assoc]
    rfl
end
