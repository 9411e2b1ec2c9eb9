/-! the reference's Text: does a default fit -/
theorem l_fits {x : Int} (h1 : -9223372036854775808 ≤ x) (h2 : x ≤ 9223372036854775807) : (aLcmp (Int64.ofInt x) (Int64.ofInt x).toInt32.toInt64 = 0) = (-2147483648 ≤ x ∧ x ≤ 2147483647) := by
  rw [aLcmp_eq, Int32.toInt_toInt64, Int64.toInt_toInt32, Int64.toInt_ofInt_of_le (by omega) (by omega)]
  apply propext
  simp only [Int.bmod]
  omega
def mFr (c : Nat) (q : kP) (s : aT) (T : Nat → Nat → Nat) (r : Nat) : aRs := if r = 0 then rV (mS c q s) else rT 0 (mS c q (mFt c s 12 (nI (T 1 (r - 1)))))
section
variable {c : Nat} {q : kP} {s : aT} {T : Nat → Nat → Nat} {N : Nat → Int} {m l n : Nat} {rec : Nat → Nat → Nat} {F D : Nat}
theorem mFr_0 : mFr c q s T 0 = rV (mS c q s) := rfl
theorem mFr_S {v : Nat} : mFr c q s T (v + 1) = rT 0 (mS c q (mFt c s 12 (nI (T 1 v)))) := rfl
/-- what is known about the values inside -/
def mFy (c : Nat) (q : kP) (s : aT) (T : Nat → Nat → Nat) (N : Nat → Int) (m D F : Nat) (rec : Nat → Nat → Nat) : Prop := ∀ d v x, jVd T N m D v → x < q.1 1 → fMt_fit (F + d + 2) c (nI v) (nI x) (mS c q s) = mFr c q s T (rec v x)
theorem mFr_cg {r : Nat} {G : aT → aRs} : cG (mFr c q s T r) (kV G) = if r = 0 then G (mS c q s) else mFr c q s T r := by
  unfold mFr
  by_cases h : r = 0
  · rw [if_pos h, if_pos h, cG_V]
  · rw [if_neg h, if_neg h, cG_T]
theorem Mt_fA (hc : isT c) (hT : mT c s T N m l) (hG : jGt T N m l n) (hI : kIv T m q) (hk2 : q.1 2 ≤ 2200) (hrec : mFy c q s T N m D F rec) (d : Nat) {y e : Nat} (h6 : 6 ≤ y) (hy : y < q.1 1) (h4 : 0 < q.2.1 4 y) (hx : q.2.2 1 y 0 ≠ 0) (he : e ≤ m) : ∀ k lo cur, jTl T (jVf T N m D) k lo e cur → fMt_fit_170 (F + d + 3) c (nI y) (zI cur) (mS c q s) = mFr c q s T (kFiA T (fun w => rec w (q.2.2 1 y 0 - 1)) k cur) := by
  have hm := hG.1
  have hn : q.1 1 < 140 := by have := hI.1; omega
  have hkid := mS_kid (c := c) (s := s) hI h6 hy h4
  have hkids := mS_kids (c := c) (s := s) hI h6 hy
  have hx1 := (hI.2.2.2.1 y 0 h6 hy h4).2.2.2.1
  intro k
  induction k with
  | zero =>
    intro lo cur h
    have : cur = 0 := h.1
    subst this
    refine eMt_fit_170 (F + d + 2) c _ _ _ hc _ ?_
    rw [if_pos (by decide)]
    rfl
  | succ k ih =>
    intro lo cur h
    obtain ⟨hcur, e1, hP, hch⟩ := h
    subst hcur
    have hlt := jVd_lt hP.1
    rw [← hP.2] at hlt
    have hle := jTl_lt jVf_lt _ _ _ _ hch
    have hf := hrec d lo (q.2.2 1 y 0 - 1) hP.1 (by omega)
    have ihh := ih e1 _ hch
    have go : ∀ r, cG (fMt_fit (F + d + 2) c (nI lo) (nI (q.2.2 1 y 0 - 1)) (mS c q s)) (kV fun s3 => ldI 4200 s3 (c + 7) (nI lo) (fun v4 => fMt_fit_170 (F + d + 3) c (nI y) v4 s3)) = some r → fMt_fit_170 (F + d + 3) c (nI y) (zI (lo + 1)) (mS c q s) = some r := by
      intro r hr
      refine eMt_fit_170 (F + d + 2) c _ _ _ hc _ ?_
      rw [zI_S, if_neg (nI_pos (by omega)), ldI_n (by omega) (by omega), hkids, hkid.2.1, zI_S, ldI_n (by omega) (by omega), hkid.2.2.1, zI_pos (by omega)]
      exact hr
    show _ = mFr c q s T (if rec (lo + 1 - 1) (q.2.2 1 y 0 - 1) = 0 then kFiA T (fun w => rec w (q.2.2 1 y 0 - 1)) k (T 4 (lo + 1 - 1)) else rec (lo + 1 - 1) (q.2.2 1 y 0 - 1))
    rw [Nat.add_sub_cancel]
    rw [hf, mFr_cg] at go
    by_cases hz : rec lo (q.2.2 1 y 0 - 1) = 0
    · rw [if_pos hz]
      rw [if_pos hz, ldI_n (by omega) (by omega), ((mS_T (q := q) hT).1 lo (by omega)).2.2.2.2.1, ihh] at go
      unfold mFr at go ⊢
      by_cases hz2 : kFiA T (fun w => rec w (q.2.2 1 y 0 - 1)) k (T 4 lo) = 0
      · rw [if_pos hz2] at go ⊢; exact go _ rfl
      · rw [if_neg hz2] at go ⊢; exact go _ rfl
    · rw [if_neg hz]
      rw [if_neg hz] at go
      unfold mFr at go ⊢
      rw [if_neg hz] at go ⊢
      exact go _ rfl
theorem Mt_fM (hc : isT c) (hT : mT c s T N m l) (hG : jGt T N m l n) (hI : kIv T m q) (hk2 : q.1 2 ≤ 2200) (hrec : mFy c q s T N m D F rec) (d : Nat) {y e : Nat} (h6 : 6 ≤ y) (hy : y < q.1 1) (h4 : 0 < q.2.1 4 y) (hx : q.2.2 1 y 0 ≠ 0) (he : e ≤ m) : ∀ k lo cur, jTm T (jVf T N m D) k lo e cur → fMt_fit_206 (F + d + 3) c (nI y) (zI cur) (mS c q s) = mFr c q s T (kFiM T (fun w => rec w (q.2.2 1 y 0 - 1)) k cur) := by
  have hm := hG.1
  have hn : q.1 1 < 140 := by have := hI.1; omega
  have hkid := mS_kid (c := c) (s := s) hI h6 hy h4
  have hkids := mS_kids (c := c) (s := s) hI h6 hy
  have hx1 := (hI.2.2.2.1 y 0 h6 hy h4).2.2.2.1
  intro k
  induction k with
  | zero =>
    intro lo cur h
    have : cur = 0 := h.1
    subst this
    refine eMt_fit_206 (F + d + 2) c _ _ _ hc _ ?_
    rw [if_pos (by decide)]
    rfl
  | succ k ih =>
    intro lo cur h
    obtain ⟨hcur, hk0, hk4, e1, hP, hch⟩ := h
    subst hcur
    have hlt := jVd_lt hP.1
    rw [← hP.2] at hlt
    have hle := jTm_lt jVf_lt _ _ _ _ hch
    have hf := hrec d (lo + 1) (q.2.2 1 y 0 - 1) hP.1 (by omega)
    have ihh := ih e1 _ hch
    have hTq := mS_T (q := q) hT
    have e4 : gI (mS c q s) (c + 7) lo = nI (lo + 1) := by rw [(hTq.1 lo (by omega)).2.2.2.2.1, hk4, zI_S]
    have go : ∀ r, cG (fMt_fit (F + d + 2) c (nI (lo + 1)) (nI (q.2.2 1 y 0 - 1)) (mS c q s)) (kV fun s4 => ldI 4200 s4 (c + 7) (nI lo) (fun v5 => ldI 4200 s4 (c + 7) v5 (fun v6 => fMt_fit_206 (F + d + 3) c (nI y) v6 s4))) = some r → fMt_fit_206 (F + d + 3) c (nI y) (zI (lo + 1)) (mS c q s) = some r := by
      intro r hr
      refine eMt_fit_206 (F + d + 2) c _ _ _ hc _ ?_
      rw [zI_S, if_neg (nI_pos (by omega)), ldI_n (by omega) (by omega), e4, ldI_n (by omega) (by omega), hkids, hkid.2.1, zI_S, ldI_n (by omega) (by omega), hkid.2.2.1, zI_pos (by omega)]
      exact hr
    have es : kFiM T (fun w => rec w (q.2.2 1 y 0 - 1)) (k + 1) (lo + 1) = if rec (lo + 1) (q.2.2 1 y 0 - 1) = 0 then kFiM T (fun w => rec w (q.2.2 1 y 0 - 1)) k (T 4 (lo + 1)) else rec (lo + 1) (q.2.2 1 y 0 - 1) := by
      show (if rec (T 4 (lo + 1 - 1) - 1) (q.2.2 1 y 0 - 1) = 0 then kFiM T (fun w => rec w (q.2.2 1 y 0 - 1)) k (T 4 (T 4 (lo + 1 - 1) - 1)) else rec (T 4 (lo + 1 - 1) - 1) (q.2.2 1 y 0 - 1)) = _
      rw [Nat.add_sub_cancel, hk4, show lo + 2 - 1 = lo + 1 from rfl]
    rw [es]
    rw [hf, mFr_cg] at go
    by_cases hz : rec (lo + 1) (q.2.2 1 y 0 - 1) = 0
    · rw [if_pos hz]
      rw [if_pos hz, ldI_n (by omega) (by omega), e4, ldI_n (by omega) (by omega), (hTq.1 (lo + 1) (by omega)).2.2.2.2.1, ihh] at go
      unfold mFr at go ⊢
      by_cases hz2 : kFiM T (fun w => rec w (q.2.2 1 y 0 - 1)) k (T 4 (lo + 1)) = 0
      · rw [if_pos hz2] at go ⊢; exact go _ rfl
      · rw [if_neg hz2] at go ⊢; exact go _ rfl
    · rw [if_neg hz]
      rw [if_neg hz] at go
      unfold mFr at go ⊢
      rw [if_neg hz] at go ⊢
      exact go _ rfl
theorem Mt_fF (hc : isT c) (hT : mT c s T N m l) (hG : jGt T N m l n) (hI : kIv T m q) (hk2 : q.1 2 ≤ 2200) (hrec : mFy c q s T N m D F rec) (d : Nat) {y v : Nat} (hv : jVd T N m (D + 1) v) (h0 : T 0 v = 0) (h6 : 6 ≤ y) (hy : y < q.1 1) (h11 : q.2.1 0 y = 11) (hx : ∀ i, i < q.2.1 4 y → q.2.2 1 y i ≠ 0) : ∀ k i, i + k = q.2.1 4 y → fMt_fit_248 (F + d + 3) c (nI v) (nI (T 1 v)) (zI (kPr q y i)) (mS c q s) = mFr c q s T (kFiF T q rec v y k i) := by
  have hm := hG.1
  have hlt := jVd_lt hv
  have hn : q.1 1 < 140 := by have := hI.1; omega
  intro k
  induction k with
  | zero =>
    intro i hi
    have : kPr q y i = 0 := by unfold kPr; rw [if_neg (by omega)]
    rw [this]
    refine eMt_fit_248 (F + d + 2) c _ _ _ _ hc _ ?_
    rw [if_pos (by decide)]
    rfl
  | succ k ih =>
    intro i hi
    have hi4 : i < q.2.1 4 y := by omega
    have hkid := mS_kid (c := c) (s := s) hI h6 hy hi4
    have hii := hI.2.2.2.1 y i h6 hy hi4
    have hx1 := hii.2.2.2.1
    have hxi := hx i hi4
    have hnm : 0 < q.2.2 2 y i ∧ q.2.2 2 y i ≤ m ∧ kNam T (q.2.2 2 y i - 1) = true := by
      rcases hii.2.2.2.2.2 with h | h
      · omega
      · exact ⟨h.2.1, h.2.2.1, h.2.2.2.1⟩
    have hnw := kNam_w hnm.2.2
    have hml : fMt_memberLike (F + d + 2) c (nI v) (nI (q.2.2 2 y i - 1)) (mS c q s) = rI (zI (kMl T v (q.2.2 2 y i - 1))) (mS c q s) := Mt_memberLike (F + d + 1) hc (mS_T (q := q) hT) hG (x := q.2.2 2 y i - 1) (by omega) hnw.1 (D := D + 1) (v := v) (e := jE T v) ⟨hv.1, hv.2⟩ h0
    have hmd : kMl T v (q.2.2 2 y i - 1) ≠ 0 → jVd T N m D (kMl T v (q.2.2 2 y i - 1) - 1) := fun h => kMv_d hv h0 h
    have ihh := ih (i + 1) (by omega)
    show _ = mFr c q s T (if kMl T v (q.2.2 2 y i - 1) = 0 then v + 1 else if rec (kMl T v (q.2.2 2 y i - 1) - 1) (q.2.2 1 y i - 1) = 0 then kFiF T q rec v y k (i + 1) else rec (kMl T v (q.2.2 2 y i - 1) - 1) (q.2.2 1 y i - 1))
    generalize kMl T v (q.2.2 2 y i - 1) = w at *
    have go : ∀ r, (if zI w < 0 then fMt_fit_264 (F + d + 3) c (nI v) (nI (T 1 v)) (nI (q.2.2 0 y i)) (zI w) 0 (mS c q s) else fMt_fit_264 (F + d + 3) c (nI v) (nI (T 1 v)) (nI (q.2.2 0 y i)) (zI w) 1 (mS c q s)) = some r → fMt_fit_248 (F + d + 3) c (nI v) (nI (T 1 v)) (zI (kPr q y i)) (mS c q s) = some r := by
      intro r hr
      refine eMt_fit_248 (F + d + 2) c _ _ _ _ hc _ ?_
      have hz2 : zI (q.2.2 2 y i) = nI (q.2.2 2 y i - 1) := zI_pos (by omega)
      rw [hkid.2.1, zI_S, if_neg (nI_pos (by omega)), ldI_n (by omega) (by omega), hkid.2.2.2.1, hz2, hml, cG_I]
      exact hr
    by_cases hz : w = 0
    · rw [if_pos hz]
      rw [hz, if_pos (by decide)] at go
      refine go _ ?_
      refine eMt_fit_264 (F + d + 2) c _ _ _ _ _ _ hc _ ?_
      rw [Mt_nd0 _ hc, cG_T]
      rfl
    · rw [if_neg hz]
      have hvw := hmd hz
      have hltw := jVd_lt hvw
      have hf := hrec d (w - 1) (q.2.2 1 y i - 1) hvw (by omega)
      have ez : zI w = nI (w - 1) := zI_pos (by omega)
      rw [ez, if_neg (nI_pos (by omega))] at go
      have go2 : ∀ r, cG (fMt_fit (F + d + 2) c (nI (w - 1)) (nI (q.2.2 1 y i - 1)) (mS c q s)) (kV fun s3 => ldI 2200 s3 (c + 18) (nI (q.2.2 0 y i)) (fun v4 => fMt_fit_248 (F + d + 3) c (nI v) (nI (T 1 v)) v4 s3)) = some r → fMt_fit_248 (F + d + 3) c (nI v) (nI (T 1 v)) (zI (kPr q y i)) (mS c q s) = some r := by
        intro r hr
        refine go _ ?_
        refine eMt_fit_264 (F + d + 2) c _ _ _ _ _ _ hc _ ?_
        have hz1 : zI (q.2.2 1 y i) = nI (q.2.2 1 y i - 1) := zI_pos (by omega)
        rw [Mt_need1 _ hc, cG_V, ldI_n (by omega) (by omega), hkid.2.2.1, hz1]
        exact hr
      rw [hf, mFr_cg] at go2
      by_cases hz3 : rec (w - 1) (q.2.2 1 y i - 1) = 0
      · rw [if_pos hz3]
        rw [if_pos hz3, ldI_n (by omega) (by omega), hkid.2.2.2.2.2, ihh] at go2
        unfold mFr at go2 ⊢
        by_cases hz2 : kFiF T q rec v y k (i + 1) = 0
        · rw [if_pos hz2] at go2 ⊢; exact go2 _ rfl
        · rw [if_neg hz2] at go2 ⊢; exact go2 _ rfl
      · rw [if_neg hz3]
        rw [if_neg hz3] at go2
        unfold mFr at go2 ⊢
        rw [if_neg hz3] at go2 ⊢
        exact go2 _ rfl
end
