/-! the reference's Text: symbols -/
section
variable {c : Nat} {q : kP} {s : aT} {T : Nat → Nat → Nat} {N : Nat → Int} {m l n : Nat} {rec : kR} {E dep : Nat}
theorem jTl_len {k lo e cur : Nat} (h : jTl T (jVe T N m) k lo e cur) : k + lo ≤ e := by
  induction k generalizing lo cur with
  | zero => have := h.2; omega
  | succ k ih =>
    obtain ⟨_, e1, hP, h⟩ := h
    have a := jVe_lt _ _ hP
    have b := ih h
    omega
theorem jVb_2le {v : Nat} (hG : jGt T N m l n) (hv : jVb T N m v) (h1 : T 0 v = 1) : T 2 v ≤ 4096 := by
  have := jTl_len (jVb_l hv h1)
  have := jVb_lt hv
  have := hG.1
  omega
/-- no part so far has that name -/
theorem Mt_s68 (d : Nat) (hc : isT c) (hT : mT c s T N m l) (hG : jGt T N m l n) (hI : kIv T m q) (hk2 : q.1 2 ≤ 2200) {x2 z4 : Int32} {b t : Nat} (hb : b < m) (hb2 : T 0 b = 2) (h6 : 6 ≤ t) (ht : t < q.1 1) (h10 : 10 ≤ q.2.1 0 t) : ∀ k i, i + k = q.2.1 4 t →
    (kFr (fun i => jSm T (q.2.2 2 t i - 1) b) k i = 0 → ∀ r, fMt_symbols_68 (d + 2) c (nI t) x2 z4 (nI b) (zI 0) (mS c q s) = some r → fMt_symbols_68 (d + 2) c (nI t) x2 z4 (nI b) (zI (kPr q t i)) (mS c q s) = some r) ∧
    (kFr (fun i => jSm T (q.2.2 2 t i - 1) b) k i ≠ 0 → fMt_symbols_68 (d + 2) c (nI t) x2 z4 (nI b) (zI (kPr q t i)) (mS c q s) = rT 0 (mS c q (mFt c s 11 (nI (T 1 b))))) := by
  have hm := hG.1
  have hn : q.1 1 < 140 := by have := hI.1; omega
  intro k
  induction k with
  | zero =>
    intro i hi
    have e : kPr q t i = 0 := by unfold kPr; rw [if_neg (by omega)]
    rw [e]
    exact ⟨fun _ r hr => hr, fun h => absurd rfl h⟩
  | succ k ih =>
    intro i hi
    have hil : i < q.2.1 4 t := by omega
    obtain ⟨k1, k2, k3, k4, k5, k6⟩ := mS_kid (c := c) (s := s) hI h6 ht hil
    have hbb := (hI.2.2.2.1 t i h6 ht hil).2.2.2.2.2
    have hq1 : 0 < q.2.2 2 t i ∧ q.2.2 2 t i ≤ m ∧ kNam T (q.2.2 2 t i - 1) = true := by
      rcases hbb with g | g
      · omega
      · exact ⟨g.2.1, g.2.2.1, g.2.2.2.1⟩
    have hnm := kNam_w hq1.2.2
    have hal := Mt_sm (d + 1) hc (mS_T (q := q) hT) hG (x := q.2.2 2 t i - 1) (y := b) (by omega) hb hnm.1 hb2
    have ek : kFr (fun i => jSm T (q.2.2 2 t i - 1) b) (k + 1) i = if jSm T (q.2.2 2 t i - 1) b = true then i + 1 else kFr (fun i => jSm T (q.2.2 2 t i - 1) b) k (i + 1) := rfl
    have go : ∀ r, (if jSm T (q.2.2 2 t i - 1) b = true then fMt_symbols_83 (d + 2) c (nI t) x2 z4 (nI b) (nI (q.2.2 0 t i)) 0 (mS c q s) else fMt_symbols_83 (d + 2) c (nI t) x2 z4 (nI b) (nI (q.2.2 0 t i)) 1 (mS c q s)) = some r → fMt_symbols_68 (d + 2) c (nI t) x2 z4 (nI b) (zI (kPr q t i)) (mS c q s) = some r := by
      intro r hr
      refine eMt_symbols_68 (d + 1) c _ _ _ _ _ _ hc _ ?_
      rw [k2, zI_S, if_neg (nI_pos (by omega)), ldI_n (by omega) (by omega), k4, zI_pos (by omega), hal, cG_I]
      by_cases hs : jSm T (q.2.2 2 t i - 1) b = true
      · rw [if_pos hs] at hr
        rw [if_pos (by rw [hs]; decide)]
        exact hr
      · rw [if_neg hs] at hr
        rw [if_neg (by rw [if_neg hs]; decide)]
        exact hr
    rw [ek]
    by_cases hs : jSm T (q.2.2 2 t i - 1) b = true
    · rw [if_pos hs] at go ⊢
      refine ⟨fun h => by omega, fun _ => go _ ?_⟩
      refine eMt_symbols_83 (d + 1) c _ _ _ _ _ _ _ hc _ ?_
      rw [ldI_n (by omega) (by omega), ((mS_T (q := q) hT).1 b hb).2.1, Mt_nd0 _ hc, cG_T]
      rfl
    · rw [if_neg hs] at go ⊢
      have step : ∀ r, fMt_symbols_68 (d + 2) c (nI t) x2 z4 (nI b) (zI (kPr q t (i + 1))) (mS c q s) = some r → fMt_symbols_68 (d + 2) c (nI t) x2 z4 (nI b) (zI (kPr q t i)) (mS c q s) = some r := by
        intro r hr
        refine go _ ?_
        refine eMt_symbols_83 (d + 1) c _ _ _ _ _ _ _ hc _ ?_
        rw [ldI_n (by omega) (by omega), Mt_need1 _ hc, cG_V, ldI_n (by omega) (by omega), k6]
        exact hr
      have ih := ih (i + 1) (by omega)
      exact ⟨fun h r hr => step r (ih.1 h r hr), fun h => step _ (ih.2 h)⟩
/-- the symbols, then what comes behind them -/
theorem Mt_s51 (d : Nat) (hc : isT c) (hT : mT c s T N m l) (hG : jGt T N m l n) {x2 : Int32} {q0 : kP} {t e : Nat} (he : e ≤ m) : ∀ k lo cur q, jTl T (jVe T N m) k lo e cur → kLo T m q0 t q → 10 ≤ q.2.1 0 t → q.2.1 4 t + k ≤ q.2.1 7 t → 2 * q.1 2 + jSw T e ≤ 4300 + jSw T lo → match kYl T t k cur q with
    | .ok q' => ∀ r, fMt_symbols_51 (d + 9) c (nI t) x2 (zI (kLs q' t)) (zI 0) (mS c q' s) = some r → fMt_symbols_51 (d + 9) c (nI t) x2 (zI (kLs q t)) (zI cur) (mS c q s) = some r
    | .error (k0, e0) => ∃ q', fMt_symbols_51 (d + 9) c (nI t) x2 (zI (kLs q t)) (zI cur) (mS c q s) = rT 0 (mS c q' (mFt c s (nI k0) (nI e0))) := by
  have hm := hG.1
  intro k
  induction k with
  | zero =>
    intro lo cur q hch hl _ _ _
    have : cur = 0 := hch.1
    subst this
    exact fun r hr => hr
  | succ k ih =>
    intro lo cur q hch hl h10 h7 hbud
    obtain ⟨hcur, e1, hP, hch⟩ := hch
    subst hcur
    have hlt := jVb_lt hP.1
    have hw := kWv_eq (T := T) (v := lo) hlt.1
    rw [← hP.2] at hw hlt
    have hle := jTl_lt jVe_lt _ _ _ _ hch
    have hsm := jSw_mono (T := T) (a := e1) e hle
    have ht := hl.2.2.1
    have hI := hl.1
    have hn : q.1 1 < 140 := by have := hI.1; omega
    have hTq := mS_T (q := q) hT
    have hnm := Mt_isName (d + 8) hc hTq hG (v := lo) (by omega) (jVb_k hP.1)
    have h732 := (hI.2.2.1 t ht.2.1 ht.2.2).2.2.2.2.2.2.2
    have go : ∀ r, cG (fMt_need (d + 8) c (if kNam T lo then 1 else 0) 11 (nI (T 1 lo)) (mS c q s)) (kV fun s9 => ldI 140 s9 (c + 12) (nI t) (fun v10 => fMt_symbols_68 (d + 9) c (nI t) x2 (zI (kLs q t)) (nI lo) v10 s9)) = some r → fMt_symbols_51 (d + 9) c (nI t) x2 (zI (kLs q t)) (zI (lo + 1)) (mS c q s) = some r := by
      intro r hr
      refine eMt_symbols_51 (d + 8) c _ _ _ _ _ hc _ ?_
      rw [zI_S, if_neg (nI_pos (by omega)), hnm, cG_I, ldI_n (by omega) (by omega), (hTq.1 lo (by omega)).2.1]
      exact hr
    unfold kYl
    rw [Nat.add_sub_cancel]
    by_cases hna : kNam T lo = true
    · rw [if_pos hna, Mt_need1 _ hc, cG_V, ldI_n (by omega) (by omega), mS_kids hI ht.2.1 ht.2.2] at go
      have hnw := kNam_w hna
      have hu := Mt_s68 (s := s) (d + 7) hc hT hG hI (by omega) (x2 := x2) (z4 := zI (kLs q t)) (b := lo) (t := t) (by omega) hnw.1 ht.2.1 ht.2.2 h10 (q.2.1 4 t) 0 (by omega)
      by_cases hz : kPt T q t (q.2.1 4 t) lo = 0
      · rw [if_pos ⟨hna, hz⟩]
        have hsy := (kLo_sy (dv := 0) hl h10 (by omega) (show lo < m by omega) hna (by omega)).1
        have hak := Mt_addKid (s := s) (d + 8) hc ht.2.1 ht.2.2 hn (by omega) (by omega) (fun hz => (hI.2.2.2.1 t (q.2.1 4 t - 1) ht.2.1 ht.2.2 (by omega)).1.1)
        have hx0 : (kAk t q).2.2 0 t (q.2.1 4 t) = q.1 2 := kAk_X0
        have hss := mS_sn (c := c) (s := s) (T := T) (q := kAk t q) (t := t) (i := q.2.1 4 t) (x := lo) (by rw [hx0]; exact Nat.lt_succ_self _)
        rw [hx0] at hss
        have els2 : kLs (kSn T t (q.2.1 4 t) lo (kAk t q)) t = q.1 2 + 1 := by
          unfold kLs
          rw [hsy.2.1, if_neg (by omega), Nat.add_sub_cancel, kSn_X, if_neg (by omega), if_neg (by omega), hx0]
        have c2 : (kSn T t (q.2.1 4 t) lo (kAk t q)).1 2 = q.1 2 + 1 := rfl
        have ih := ih e1 _ _ hch hsy.1 (by rw [hsy.2.2 0 (by omega) (by omega)]; exact h10) (by rw [hsy.2.1, hsy.2.2 7 (by omega) (by omega)]; omega) (by rw [c2]; omega)
        have go2 : ∀ r, fMt_symbols_51 (d + 9) c (nI t) x2 (zI (kLs (kSn T t (q.2.1 4 t) lo (kAk t q)) t)) (zI (T 4 lo)) (mS c (kSn T t (q.2.1 4 t) lo (kAk t q)) s) = some r → fMt_symbols_51 (d + 9) c (nI t) x2 (zI (kLs q t)) (zI (lo + 1)) (mS c q s) = some r := by
          intro r hr2
          refine go _ (hu.1 hz _ ?_)
          rw [els2, zI_S] at hr2
          refine eMt_symbols_68 (d + 8) c _ _ _ _ _ _ hc _ ?_
          rw [if_pos (by decide)]
          rw [show kLs q t = (if q.2.1 4 t = 0 then 0 else q.2.2 0 t (q.2.1 4 t - 1) + 1) from rfl, hak, cG_I, stI_n (by omega) (by omega), hss, ldI_n (by omega) (by omega), ((mS_T (q := kSn T t (q.2.1 4 t) lo (kAk t q)) hT).1 lo (by omega)).2.2.2.2.1]
          exact hr2
        revert ih
        cases kYl T t k (T 4 lo) (kSn T t (q.2.1 4 t) lo (kAk t q)) with
        | error er => obtain ⟨k0, e0⟩ := er; rintro ⟨q', h⟩; exact ⟨q', go2 _ h⟩
        | ok q2 => exact fun h r hr => go2 _ (h r hr)
      · rw [if_neg (fun h => hz h.2)]
        exact ⟨q, go _ (hu.2 hz)⟩
    · rw [if_neg (fun h => hna h.1)]
      rw [if_neg hna, Mt_nd0 _ hc, cG_T] at go
      exact ⟨q, go _ rfl⟩
theorem Mt_symbols (d : Nat) (hc : isT c) (hT : mT c s T N m l) (hG : jGt T N m l n) {q0 : kP} {t v : Nat} (hl : kLo T m q0 t q) (h10 : q.2.1 0 t = 10) (h4 : q.2.1 4 t = 0) (hv : jVb T N m v) (h0 : T 0 v = 0) (hbud : 2 * q.1 2 + kWv T v ≤ 4300) : match kEn T v t q with
    | .ok (q', t') => t' = t ∧ fMt_symbols (d + 9) c (nI t) (nI v) (mS c q s) = rV (mS c q' s)
    | .error (k0, e0) => ∃ q', fMt_symbols (d + 9) c (nI t) (nI v) (mS c q s) = rT 0 (mS c q' (mFt c s (nI k0) (nI e0))) := by
  have hm := hG.1
  have hlt := jVb_lt hv
  have hTq := mS_T (q := q) hT
  obtain ⟨D, hD24, hvD, hvm⟩ := hv
  have hv : jVb T N m v := ⟨D, hD24, hvD, hvm⟩
  have ht := hl.2.2.1
  have hmem : ∀ d q k w, (w, k) ∈ [(1046, 0), (1047, 1), (1048, 2), (1049, 3), (1050, 4), (1051, 5), (1052, 12), (1053, 6), (1054, 7), (1055, 13), (1056, 14), (1057, 9), (1058, 10), (1059, 11), (1060, 15), (1061, 16), (1062, 17), (1063, 18), (1064, 19), (1003, 0), (1004, 1), (1005, 2), (1006, 3), (1007, 4), (1008, 5), (1009, 6), (1010, 7), (1011, 9), (1012, 10), (1013, 11), (1014, 8), (1015, 12), (1016, 13), (1017, 14), (1018, 15), (1019, 16), (1020, 17), (1021, 18), (1022, 19)] → fMt_member (d + 7) c (nI v) w (mS c q s) = rI (zI (kMb T v (kWs k))) (mS c q s) := fun d q k w hw => Mt_member d hc (mS_T (q := q) hT) hG (sWd_ok _ hw) ⟨hvD, hvm⟩ h0
  have hm17 := hmem (d + 1) q 17 1062 (by decide)
  have f1v := (hTq.1 v (by omega)).2.1
  unfold kEn
  have hmle := kMb_le (W := kWs 17) hv h0
  by_cases hz : kMb T v (kWs 17) = 0
  · rw [if_pos hz]
    refine ⟨q, ?_⟩
    refine eMt_symbols (d + 8) c _ _ _ hc _ ?_
    rw [hm17, cG_I, hz, if_pos (by decide)]
    refine eMt_symbols_11 (d + 8) c _ _ _ _ _ hc _ ?_
    rw [ldI_n (by omega) (by omega), f1v, Mt_nd0 _ hc, cG_T]
    rfl
  · rw [if_neg hz]
    have m2 := kMb_ok hv h0 hz
    have hlt2 := jVb_lt m2.1
    have hm3 := kGm_3 hv h0 (W1 := kWs 15) (W2 := kWs 17) (W3 := kWs 12) (by decide) (by decide) (by decide)
    have hw2 := kWv_eq (T := T) hlt2.1
    have hkk := jVb_k m2.1
    have hmle18 := kMb_le (W := kWs 18) hv h0
    have hm18 : ∀ q', fMt_member (d + 8) c (nI v) 1063 (mS c q' s) = rI (zI (kMb T v (kWs 18))) (mS c q' s) := fun q' => hmem (d + 1) q' 18 1063 (by decide)
    have hv18 : kMb T v (kWs 18) ≠ 0 → jVb T N m (kMb T v (kWs 18) - 1) := fun h => (kMb_ok hv h0 h).1
    generalize kMb T v (kWs 17) = L at *
    generalize kMb T v (kWs 18) = dv at *
    obtain ⟨L, rfl⟩ : ∃ L', L = L' + 1 := ⟨L - 1, by omega⟩
    rw [Nat.add_sub_cancel] at *
    have fL := hTq.1 L (by omega)
    have go11 : ∀ r, (if T 0 L = 1 then (if 0 < T 2 L ∧ T 2 L < 33 then fMt_symbols_38 (d + 9) c (nI t) (nI v) (nI L) 1 (mS c q s) else fMt_symbols_38 (d + 9) c (nI t) (nI v) (nI L) 0 (mS c q s)) else fMt_symbols_38 (d + 9) c (nI t) (nI v) (nI L) 0 (mS c q s)) = some r → fMt_symbols (d + 9) c (nI t) (nI v) (mS c q s) = some r := by
      intro r hr
      have h37 : ∀ r, fMt_symbols_38 (d + 9) c (nI t) (nI v) (nI L) 0 (mS c q s) = some r → fMt_symbols_37 (d + 9) c (nI t) (nI v) (nI L) (mS c q s) = some r := fun r hr => eMt_symbols_37 (d + 8) c _ _ _ _ hc _ hr
      refine eMt_symbols (d + 8) c _ _ _ hc _ ?_
      rw [hm17, cG_I, zI_S, if_neg (nI_pos (by omega))]
      refine eMt_symbols_11 (d + 8) c _ _ _ _ _ hc _ ?_
      rw [ldI_n (by omega) (by omega), Mt_need1 _ hc, cG_V, ldI_n (by omega) (by omega), fL.1]
      simp (disch := omega) only [nI_lit 1, nI_eqE]
      by_cases h1 : T 0 L = 1
      · have h2le := jVb_2le hG m2.1 h1
        rw [if_pos h1] at hr
        rw [if_neg (fun e => e h1), ldI_n (by omega) (by omega), mT_Z hTq (by omega) (by omega), show (0 : Int32) = nI 0 from rfl]
        simp (disch := omega) only [nI_leE]
        by_cases hz0 : T 2 L ≤ 0
        · rw [if_neg (by omega)] at hr
          rw [if_pos hz0]
          exact h37 _ hr
        · rw [if_neg hz0, ldI_n (by omega) (by omega), mT_Z hTq (by omega) (by omega)]
          simp (disch := omega) only [nI_lit 33, nI_leE]
          by_cases h33 : 33 ≤ T 2 L
          · rw [if_neg (by omega)] at hr
            rw [if_pos h33]
            exact h37 _ hr
          · rw [if_pos (by omega)] at hr
            rw [if_neg h33]
            exact hr
      · rw [if_neg h1] at hr
        rw [if_pos h1]
        exact h37 _ hr
    have bad : fMt_symbols_38 (d + 9) c (nI t) (nI v) (nI L) 0 (mS c q s) = rT 0 (mS c q (mFt c s 11 (nI (T 1 L)))) := by
      refine eMt_symbols_38 (d + 8) c _ _ _ _ _ hc _ ?_
      rw [ldI_n (by omega) (by omega), fL.2.1, Mt_nd0 _ hc, cG_T]
      rfl
    by_cases hL : T 0 L = 1 ∧ 0 < T 2 L ∧ T 2 L < 33
    · rw [if_pos hL]
      rw [if_pos hL.1, if_pos hL.2] at go11
      have hap := kLo_ap (n := T 2 L) hl (by omega) h4 (by omega)
      have a2 : (kAp t (T 2 L) q).1 2 = q.1 2 := rfl
      have hs51 := Mt_s51 (s := s) d hc hT hG (x2 := nI v) (q0 := q0) (t := t) (e := jE T L) hlt2.2 _ _ _ _ (jVb_l m2.1 hL.1) hap.1 (by rw [hap.2.1 0 (by omega)]; omega) (by rw [hap.2.1 4 (by omega), hap.2.2, h4]; omega) (by rw [a2]; omega)
      have els : kLs (kAp t (T 2 L) q) t = 0 := by unfold kLs; rw [hap.2.1 4 (by omega), h4, if_pos rfl]
      rw [els, mS_ap] at hs51
      have go38 : ∀ r, fMt_symbols_51 (d + 9) c (nI t) (nI v) (zI 0) (zI (T 3 L)) (mS c q s) = some r → fMt_symbols (d + 9) c (nI t) (nI v) (mS c q s) = some r := by
        intro r hr
        refine go11 _ ?_
        refine eMt_symbols_38 (d + 8) c _ _ _ _ _ hc _ ?_
        rw [ldI_n (by omega) (by omega), Mt_need1 _ hc, cG_V, ldI_n (by omega) (by omega), fL.2.2.2.1]
        exact hr
      cases hyl : kYl T t (T 2 L) (T 3 L) (kAp t (T 2 L) q) with
      | error er =>
        obtain ⟨k0, e0⟩ := er
        rw [hyl] at hs51
        obtain ⟨q', h⟩ := hs51
        exact ⟨q', go38 _ h⟩
      | ok q2 =>
        rw [hyl] at hs51
        have hyo := kYl_ok _ _ _ _ _ (jVb_l m2.1 hL.1) hap.1 (by rw [hap.2.1 0 (by omega)]; omega) (by rw [hap.2.1 4 (by omega), hap.2.2, h4]; omega) hyl
        obtain ⟨i1, i2, i3, i4, i5, i6, i7⟩ := hyo
        rw [hap.2.1 4 (by omega), h4] at i6
        rw [hap.2.1 0 (by omega), h10] at i7
        have ht2 := i1.2.2.1
        have hn2 : q2.1 1 < 140 := by have := i1.1.1; omega
        have hTq2 := mS_T (q := q2) hT
        have go51 : ∀ r, (if dv = 0 then rV (mS c q2 s) else ldI 4200 (mS c q2 s) (c + 2) (nI (dv - 1)) (fun v3 => if ¬ v3 = 2 then fMt_symbols_133 (d + 9) c (nI t) (nI (dv - 1)) (mS c q2 s) else cG (fMt_symbol (d + 8) c (nI t) c (nI (dv - 1)) (mS c q2 s)) (kI fun v5 s4 => if v5 < 0 then fMt_symbols_133 (d + 9) c (nI t) (nI (dv - 1)) s4 else fMt_symbols_134 (d + 9) c (nI t) (nI (dv - 1)) 1 s4))) = some r → fMt_symbols (d + 9) c (nI t) (nI v) (mS c q s) = some r := by
          intro r hr
          refine go38 _ (hs51 _ ?_)
          refine eMt_symbols_51 (d + 8) c _ _ _ _ _ hc _ ?_
          rw [if_pos (by decide), hm18, cG_I]
          by_cases hd : dv = 0
          · rw [if_pos hd] at hr
            rw [hd, if_pos (by decide)]
            exact hr
          · rw [if_neg hd] at hr
            rw [zI_pos (by omega), if_neg (nI_pos (by omega))]
            exact hr
        simp only
        by_cases hd : dv = 0
        · rw [if_pos hd]
          rw [if_pos hd] at go51
          exact ⟨rfl, go51 _ rfl⟩
        · rw [if_neg hd]
          rw [if_neg hd, ldI_n (by omega) (by omega), (hTq2.1 (dv - 1) (by omega)).1] at go51
          have hdk := jVb_k (hv18 hd)
          simp (disch := omega) only [nI_lit 2, nI_eqE] at go51
          have f134 : fMt_symbols_134 (d + 9) c (nI t) (nI (dv - 1)) 0 (mS c q2 s) = rT 0 (mS c q2 (mFt c s 12 (nI (T 1 (dv - 1))))) := by
            refine eMt_symbols_134 (d + 8) c _ _ _ _ hc _ ?_
            rw [ldI_n (by omega) (by omega), (hTq2.1 (dv - 1) (by omega)).2.1, Mt_nd0 _ hc, cG_T]
            rfl
          have f133 : fMt_symbols_133 (d + 9) c (nI t) (nI (dv - 1)) (mS c q2 s) = rT 0 (mS c q2 (mFt c s 12 (nI (T 1 (dv - 1))))) := eMt_symbols_133 (d + 8) c _ _ _ hc _ f134
          by_cases hd2 : T 0 (dv - 1) = 2
          · rw [if_neg (fun e => e hd2)] at go51
            have hsy := Mt_symbol (s := s) (d + 7) hc hT hG i1.1 (by rw [i3, a2]; omega) (v := dv - 1) (t := t) (by omega) hd2 ht2.2.1 ht2.2.2 (by omega) (by omega)
            have hsy' : fMt_symbol (d + 8) c (nI t) c (nI (dv - 1)) (mS c q2 s) = rI (zI (kPt T q2 t (q2.2.1 4 t) (dv - 1))) (mS c q2 s) := hsy
            rw [hsy', cG_I] at go51
            by_cases hp : kPt T q2 t (q2.2.1 4 t) (dv - 1) = 0
            · rw [if_neg (fun e => e.2 hp)]
              rw [hp, if_pos (by decide), f133] at go51
              exact ⟨q2, go51 _ rfl⟩
            · rw [if_pos ⟨hd2, hp⟩]
              have hpb := kFr_1 _ _ hp
              have hpb2 : kPt T q2 t (q2.2.1 4 t) (dv - 1) ≤ 32 := by unfold kPt; omega
              rw [zI_pos (by omega), if_neg (nI_pos (by omega))] at go51
              refine ⟨rfl, go51 _ ?_⟩
              refine eMt_symbols_134 (d + 8) c _ _ _ _ hc _ ?_
              rw [ldI_n (by omega) (by omega), Mt_need1 _ hc, cG_V, hsy', cG_I, stI_n (by omega) (by omega), mS_w14 ht2.2.1 ht2.2.2 i7]
              rfl
          · rw [if_neg (fun e => hd2 e.1)]
            rw [if_pos hd2, f133] at go51
            exact ⟨q2, go51 _ rfl⟩
    · rw [if_neg hL]
      refine ⟨q, go11 _ ?_⟩
      rw [bad]
      by_cases h1 : T 0 L = 1
      · rw [if_pos h1, if_neg (fun e => hL ⟨h1, e⟩)]
        rfl
      · rw [if_neg h1]
        rfl
end
