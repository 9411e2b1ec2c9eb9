/-! the lake's Defaults: does a default fit -/
theorem nI_even {i : Nat} (h : i ≤ 100000) : nI i - nI i / 2 * 2 = nI (i % 2) := by
  have e1 : ∀ k : Nat, k ≤ 100000 → (nI k).toInt = k := fun k hk => by
    show (Int32.ofNat k).toInt = k
    rw [Int32.toInt_ofNat_of_lt (by omega)]
  have e2 : nI i / 2 = nI (i / 2) := by
    rw [← Int32.toInt_inj, Int32.toInt_div, e1 i h, e1 (i / 2) (by omega), show (2 : Int32).toInt = 2 from rfl, Int.tdiv_eq_ediv_of_nonneg (by omega)]
    simp only [Int.bmod]
    omega
  have e3 : nI (i / 2) * 2 = nI (i / 2 * 2) := by
    rw [← Int32.toInt_inj, Int32.toInt_mul, e1 (i / 2) (by omega), e1 (i / 2 * 2) (by omega), show (2 : Int32).toInt = 2 from rfl]
    simp only [Int.bmod]
    omega
  rw [e2, e3, nI_sub (by omega)]
  congr 1
  omega
section
variable {b pb qb : Nat} {q : kP} {s : aT} {T : Nat → Nat → Nat} {N : Nat → Int} {m l n : Nat} {rec : Nat → Nat → Nat} {F D : Nat}
theorem Sc_mn7 (d : Nat) (hT : lT s T N m l) (hG : jGt T N m l n) (hq : qb + q.1 6 ≤ 72704) {x a : Nat} (hx : x < m) (hnam : kNam T x = true) (hpo : kPo T q a x) {v e M : Nat} (hv : v < m) (h0 : T 0 v = 0) (he : e ≤ m) (hM : T 2 v = 2 * M) (hMs : M ≤ 4096) : ∀ k lo cur, jTm T (jVe T N m) k lo e cur → k ≤ M → fTx_memberNamed_7 (d + 1) (nI v) 33 (nI (qb + a + 1)) (nI (T 2 x)) (zI cur) (nI (2 * (M - k))) (lS b pb qb q s) = rI (zI (if jFd T (fun k => jSm T k x) k cur = 0 then 0 else T 4 (jFd T (fun k => jSm T k x) k cur - 1))) (lS b pb qb q s) := by
  have hm := hG.1
  have hTq := lS_T (b := b) (pb := pb) (qb := qb) (q := q) hT
  intro k
  induction k with
  | zero =>
    intro lo cur h _
    have h : cur = 0 := h.1
    subst h
    refine eTx_memberNamed_7 d _ _ _ _ _ _ _ _ ?_
    rw [ldI_n (by omega) (by omega), lT_Z hTq hv (by omega), hM]
    simp (disch := omega) only [nI_leE]
    rw [if_pos (by omega)]
    rfl
  | succ k ih =>
    intro lo cur h hkM
    obtain ⟨h1, h2, h3, e1, h4, h5⟩ := h
    have a1 := jVe_lt _ _ h4
    have a2 := jTm_lt jVe_lt _ _ _ _ h5
    subst h1
    have his := (Lt_pool (b := b) (pb := pb) (s := s) d hT hG hq (v := lo) (by omega) (by omega) hx hnam hpo).2.2
    simp only [h2, true_and] at his
    rw [jSm_comm] at his
    refine eTx_memberNamed_7 d _ _ _ _ _ _ _ _ ?_
    rw [ldI_n (by omega) (by omega), lT_Z hTq hv (by omega), hM]
    simp (disch := omega) only [nI_leE]
    rw [if_neg (by omega), zI_S, if_neg (nI_ne (by omega)), his, cG_I, jFd_s h3]
    by_cases hb : jSm T lo x = true
    · rw [if_neg (by rw [hb]; decide), if_pos hb, ldI_n (by omega) (by omega), (hTq.1 lo (by omega)).2.2.2.2.1, if_neg (by omega)]
      rfl
    · rw [if_pos (by rw [if_neg hb]), if_neg hb, ldI_n (by omega) (by omega), (hTq.1 lo (by omega)).2.2.2.2.1, h3, zI_S, ldI_n (by omega) (by omega), (hTq.1 (lo + 1) (by omega)).2.2.2.2.1, nI_lit 2, nI_addE]
      have e2 : 2 * (M - (k + 1)) + 2 = 2 * (M - k) := by omega
      rw [e2]
      exact ih _ _ h5 (by omega)
theorem Sc_mn (d : Nat) (hT : lT s T N m l) (hG : jGt T N m l n) (hq : qb + q.1 6 ≤ 72704) {x a : Nat} (hx : x < m) (hnam : kNam T x = true) (hpo : kPo T q a x) {v : Nat} (hv : jVb T N m v) (h0 : T 0 v = 0) : fSc_memberNamed (d + 2) (nI v) (nI (qb + a)) (lS b pb qb q s) = rI (zI (kMl T v x)) (lS b pb qb q s) := by
  have hm := hG.1
  have hlt := jVb_lt hv
  have hTq := lS_T (b := b) (pb := pb) (qb := qb) (q := q) hT
  obtain ⟨k, hk, h⟩ := jVb_o hv h0
  have hl := jTm_len h
  have hp := Lt_pool (b := b) (pb := pb) (s := s) d hT hG hq (v := v) (by omega) (by omega) hx hnam hpo
  have h7 := Sc_mn7 (b := b) (pb := pb) (s := s) d hT hG hq hx hnam hpo (v := v) (by omega) h0 hlt.2 hk (by omega) k _ _ h (Nat.le_refl _)
  rw [Nat.sub_self] at h7
  have hmn : fTx_memberNamed (d + 1) (nI v) 33 (nI (qb + a + 1)) (nI (T 2 x)) (lS b pb qb q s) = rI (zI (kMl T v x)) (lS b pb qb q s) := by
    refine eTx_memberNamed d _ _ _ _ _ _ ?_
    rw [ldI_n (by omega) (by omega), lT_I hTq (by omega) (by omega)]
    unfold kMl kMv
    rw [hk, Nat.mul_div_cancel_left k (by omega)]
    exact h7
  refine eSc_memberNamed (d + 1) _ _ _ _ ?_
  rw [ldI_n (by omega) (by omega), hp.1, nI_add1, hmn, cG_I]
  rfl
/-- what is known about the values inside -/
def lFy (b pb qb : Nat) (q : kP) (s : aT) (T : Nat → Nat → Nat) (N : Nat → Int) (m D F : Nat) (rec : Nat → Nat → Nat) : Prop := ∀ d v x x3, jVd T N m D v → x < q.1 1 → x3 + D ≤ 25 → fDf_misfit (F + d + 2) (nI v) (nI (lo b x)) (nI x3) (lS b pb qb q s) = rI (zI (rec v x)) (lS b pb qb q s)
def kFrb (T : Nat → Nat → Nat) (m : Nat) (rec : Nat → Nat → Nat) (D : Nat) (N : Nat → Int) (q : kP) : Prop := ∀ v x, jVd T N m D v → x < q.1 1 → rec v x ≤ m
theorem Df_in49 (d : Nat) (hT : lT s T N m l) (hG : jGt T N m l n) {x1 x3 x4 z5 : Int32} {w i : Nat} (hw : w < m) : ∀ r, fDf_misfitInside_15 (d + 1) x1 x3 x4 z5 (zI (T 4 w)) (nI (i + 1)) (lS b pb qb q s) = some r → fDf_misfitInside_49 (d + 1) x1 x3 x4 z5 (nI w) (nI i) (lS b pb qb q s) = some r := by
  intro r hr
  have hm := hG.1
  refine eDf_misfitInside_49 d _ _ _ _ _ _ _ _ ?_
  rw [ldI_n (by omega) (by omega), ((lS_T (b := b) (pb := pb) (qb := qb) (q := q) hT).1 w hw).2.2.2.2.1, nI_add1]
  exact hr
theorem Df_in32 (hC : lCx b pb qb s) (hT : lT s T N m l) (hG : jGt T N m l n) (hI : kIv T m q) (hrec : lFy b pb qb q s T N m D F rec) (hfb : kFrb T m rec D N q) (d : Nat) {y v w i x4 : Nat} {z5 : Int32} (h6 : 6 ≤ y) (hy : y < q.1 1) (h67 : q.2.1 0 y = 6 ∨ q.2.1 0 y = 7) (h4 : q.2.1 4 y = 1) (hx : q.2.2 1 y 0 ≠ 0) (hw : jVd T N m D w) (h25 : x4 + 1 + D ≤ 25) : ∀ r, (if rec w (q.2.2 1 y 0 - 1) = 0 then fDf_misfitInside_15 (F + d + 3) (nI v) (nI (lo b y)) (nI x4) z5 (zI (T 4 w)) (nI (i + 1)) (lS b pb qb q s) else rI (zI (rec w (q.2.2 1 y 0 - 1))) (lS b pb qb q s)) = some r → fDf_misfitInside_32 (F + d + 3) (nI v) (nI (lo b y)) (nI x4) z5 (nI w) (nI i) (lS b pb qb q s) = some r := by
  intro r hr
  have hm := hG.1
  have hlt := jVd_lt hw
  have hn := hI.1
  have hlty := lo_lt hC (t := y) (by omega)
  have hx1 := (hI.2.2.2.1 y 0 h6 hy (by omega)).2.2.2.1
  have h18 := ((hI.2.2.1 y h6 hy).2.2.2.2.1 h67).2.2
  rw [if_neg (by omega)] at h18
  have hf := hrec d w (q.2.2 1 y 0 - 1) (x4 + 1) hw (by omega) h25
  have hle := hfb w (q.2.2 1 y 0 - 1) hw (by omega)
  refine eDf_misfitInside_32 (F + d + 2) _ _ _ _ _ _ _ _ ?_
  have ez : zL b (q.2.1 18 y) = nI (lo b (q.2.2 1 y 0 - 1)) := by rw [h18]; unfold zL; rw [if_neg hx]
  rw [ldI_n (by omega) (by omega), lS_27 h6 hy, if_pos h67, ez, nI_add1, hf, cG_I]
  by_cases hz : rec w (q.2.2 1 y 0 - 1) = 0
  · rw [if_pos hz] at hr
    rw [hz, if_pos (by decide)]
    exact Df_in49 (F + d + 2) hT hG (by omega) _ hr
  · rw [if_neg hz] at hr
    rw [if_neg (by rw [zI_pos (by omega)]; exact nI_ne (by omega))]
    exact hr
theorem Df_fA (hC : lCx b pb qb s) (hT : lT s T N m l) (hG : jGt T N m l n) (hI : kIv T m q) (hrec : lFy b pb qb q s T N m D F rec) (hfb : kFrb T m rec D N q) (d : Nat) {y v e x4 : Nat} (hv : v < m) (h1 : T 0 v = 1) (h2le : T 2 v ≤ 4096) (h6 : 6 ≤ y) (hy : y < q.1 1) (h67 : q.2.1 0 y = 6 ∨ q.2.1 0 y = 7) (h4 : q.2.1 4 y = 1) (hx : q.2.2 1 y 0 ≠ 0) (he : e ≤ m) (h25 : x4 + 1 + D ≤ 25) : ∀ k lo1 cur i, jTl T (jVf T N m D) k lo1 e cur → i + k = T 2 v → fDf_misfitInside_15 (F + d + 3) (nI v) (nI (lo b y)) (nI x4) 0 (zI cur) (nI i) (lS b pb qb q s) = rI (zI (kFiA T (fun w => rec w (q.2.2 1 y 0 - 1)) k cur)) (lS b pb qb q s) := by
  have hm := hG.1
  have hTq := lS_T (b := b) (pb := pb) (qb := qb) (q := q) hT
  intro k
  induction k with
  | zero =>
    intro lo1 cur i h hi
    refine eDf_misfitInside_15 (F + d + 2) _ _ _ _ _ _ _ _ ?_
    rw [ldI_n (by omega) (by omega), lT_Z hTq hv (by omega)]
    simp (disch := omega) only [nI_leE]
    rw [if_pos (by omega)]
    rfl
  | succ k ih =>
    intro lo1 cur i h hi
    obtain ⟨hcur, e1, hP, hch⟩ := h
    subst hcur
    have hlt := jVd_lt hP.1
    rw [← hP.2] at hlt
    have hle := jTl_lt jVf_lt _ _ _ _ hch
    have ihh := ih e1 _ (i + 1) hch (by omega)
    refine eDf_misfitInside_15 (F + d + 2) _ _ _ _ _ _ _ _ ?_
    rw [ldI_n (by omega) (by omega), lT_Z hTq hv (by omega)]
    simp (disch := omega) only [nI_leE]
    rw [if_neg (by omega), zI_S, if_neg (nI_ne (by omega)), if_pos trivial]
    refine Df_in32 hC hT hG hI hrec hfb d h6 hy h67 h4 hx hP.1 h25 _ ?_
    rw [ihh]
    have es : kFiA T (fun w => rec w (q.2.2 1 y 0 - 1)) (k + 1) (lo1 + 1) = if rec lo1 (q.2.2 1 y 0 - 1) = 0 then kFiA T (fun w => rec w (q.2.2 1 y 0 - 1)) k (T 4 lo1) else rec lo1 (q.2.2 1 y 0 - 1) := rfl
    rw [es]
    by_cases hz : rec lo1 (q.2.2 1 y 0 - 1) = 0
    · rw [if_pos hz, if_pos hz]
      rfl
    · rw [if_neg hz, if_neg hz]
      rfl
theorem Df_fM (hC : lCx b pb qb s) (hT : lT s T N m l) (hG : jGt T N m l n) (hI : kIv T m q) (hrec : lFy b pb qb q s T N m D F rec) (hfb : kFrb T m rec D N q) (d : Nat) {y v e x4 M : Nat} (hv : v < m) (h1 : T 0 v = 0) (hM : T 2 v = 2 * M) (hMs : M ≤ 4096) (h6 : 6 ≤ y) (hy : y < q.1 1) (h67 : q.2.1 0 y = 6 ∨ q.2.1 0 y = 7) (h4 : q.2.1 4 y = 1) (hx : q.2.2 1 y 0 ≠ 0) (he : e ≤ m) (h25 : x4 + 1 + D ≤ 25) : ∀ k lo1 cur, jTm T (jVf T N m D) k lo1 e cur → k ≤ M → fDf_misfitInside_15 (F + d + 3) (nI v) (nI (lo b y)) (nI x4) 1 (zI cur) (nI (2 * (M - k))) (lS b pb qb q s) = rI (zI (kFiM T (fun w => rec w (q.2.2 1 y 0 - 1)) k cur)) (lS b pb qb q s) := by
  have hm := hG.1
  have hTq := lS_T (b := b) (pb := pb) (qb := qb) (q := q) hT
  intro k
  induction k with
  | zero =>
    intro lo1 cur h hi
    refine eDf_misfitInside_15 (F + d + 2) _ _ _ _ _ _ _ _ ?_
    rw [ldI_n (by omega) (by omega), lT_Z hTq hv (by omega), hM]
    simp (disch := omega) only [nI_leE]
    rw [if_pos (by omega)]
    rfl
  | succ k ih =>
    intro lo1 cur h hi
    obtain ⟨hcur, hk0, hk4, e1, hP, hch⟩ := h
    subst hcur
    have hlt := jVd_lt hP.1
    rw [← hP.2] at hlt
    have hle := jTm_lt jVf_lt _ _ _ _ hch
    have ihh := ih e1 _ hch (by omega)
    have ev : nI (2 * (M - (k + 1))) - nI (2 * (M - (k + 1))) / 2 * 2 = nI 0 := by rw [nI_even (by omega)]; congr 1; omega
    have od : nI (2 * (M - (k + 1)) + 1) - nI (2 * (M - (k + 1)) + 1) / 2 * 2 = nI 1 := by rw [nI_even (by omega)]; congr 1; omega
    refine eDf_misfitInside_15 (F + d + 2) _ _ _ _ _ _ _ _ ?_
    rw [ldI_n (by omega) (by omega), lT_Z hTq hv (by omega), hM]
    simp (disch := omega) only [nI_leE]
    rw [if_neg (by omega), zI_S, if_neg (nI_ne (by omega)), if_neg (by decide), ev, if_pos (by decide)]
    refine Df_in49 (F + d + 2) hT hG (by omega) _ ?_
    rw [hk4]
    refine eDf_misfitInside_15 (F + d + 2) _ _ _ _ _ _ _ _ ?_
    rw [ldI_n (by omega) (by omega), lT_Z hTq hv (by omega), hM]
    simp (disch := omega) only [nI_leE]
    rw [if_neg (by omega), show zI (lo1 + 2) = nI (lo1 + 1) from zI_S _, if_neg (nI_ne (by omega)), if_neg (by decide), od, if_neg (by decide)]
    refine Df_in32 hC hT hG hI hrec hfb d h6 hy h67 h4 hx hP.1 h25 _ ?_
    have e2 : 2 * (M - (k + 1)) + 1 + 1 = 2 * (M - k) := by omega
    rw [e2, ihh]
    have es : kFiM T (fun w => rec w (q.2.2 1 y 0 - 1)) (k + 1) (lo1 + 1) = if rec (lo1 + 1) (q.2.2 1 y 0 - 1) = 0 then kFiM T (fun w => rec w (q.2.2 1 y 0 - 1)) k (T 4 (lo1 + 1)) else rec (lo1 + 1) (q.2.2 1 y 0 - 1) := by
      show (if rec (T 4 (lo1 + 1 - 1) - 1) (q.2.2 1 y 0 - 1) = 0 then kFiM T (fun w => rec w (q.2.2 1 y 0 - 1)) k (T 4 (T 4 (lo1 + 1 - 1) - 1)) else rec (T 4 (lo1 + 1 - 1) - 1) (q.2.2 1 y 0 - 1)) = _
      rw [Nat.add_sub_cancel, hk4, show lo1 + 2 - 1 = lo1 + 1 from rfl]
    rw [es]
    by_cases hz : rec (lo1 + 1) (q.2.2 1 y 0 - 1) = 0
    · rw [if_pos hz, if_pos hz]
      rfl
    · rw [if_neg hz, if_neg hz]
      rfl
end
