/-! the reference's Text: fields -/
section
variable {c : Nat} {q : kP} {s : aT} {T : Nat → Nat → Nat} {N : Nat → Int} {m l n : Nat} {rec : kR} {E dep : Nat}
theorem Mt_mb (d : Nat) (hc : isT c) (hT : mT c s T N m l) (hG : jGt T N m l n) {v : Nat} (hv : jVb T N m v) (h0 : T 0 v = 0) {w k : Nat} (hw : (w, k) ∈ [(1046, 0), (1047, 1), (1048, 2), (1049, 3), (1050, 4), (1051, 5), (1052, 12), (1053, 6), (1054, 7), (1055, 13), (1056, 14), (1057, 9), (1058, 10), (1059, 11), (1060, 15), (1061, 16), (1062, 17), (1063, 18), (1064, 19), (1003, 0), (1004, 1), (1005, 2), (1006, 3), (1007, 4), (1008, 5), (1009, 6), (1010, 7), (1011, 9), (1012, 10), (1013, 11), (1014, 8), (1015, 12), (1016, 13), (1017, 14), (1018, 15), (1019, 16), (1020, 17), (1021, 18), (1022, 19)]) : fMt_member (d + 7) c (nI v) w s = rI (zI (kMb T v (kWs k))) s := by
  obtain ⟨D, hD24, hvD, hvm⟩ := hv
  exact Mt_member d hc hT hG (sWd_ok _ hw) ⟨hvD, hvm⟩ h0
theorem Mt_isw (d : Nat) (hc : isT c) (hT : mT c s T N m l) (hG : jGt T N m l n) {v : Nat} (hv : v < m) (hk : T 0 v ≤ 6) {w k : Nat} (hw : (w, k) ∈ [(1046, 0), (1047, 1), (1048, 2), (1049, 3), (1050, 4), (1051, 5), (1052, 12), (1053, 6), (1054, 7), (1055, 13), (1056, 14), (1057, 9), (1058, 10), (1059, 11), (1060, 15), (1061, 16), (1062, 17), (1063, 18), (1064, 19), (1003, 0), (1004, 1), (1005, 2), (1006, 3), (1007, 4), (1008, 5), (1009, 6), (1010, 7), (1011, 9), (1012, 10), (1013, 11), (1014, 8), (1015, 12), (1016, 13), (1017, 14), (1018, 15), (1019, 16), (1020, 17), (1021, 18), (1022, 19)]) : fMt_is (d + 6) c (nI v) w s = rI (if jTw T v (kWs k) then 1 else 0) s := Mt_is d hc hT hG (sWd_ok _ hw) hv hk
theorem Mt_f95 (d : Nat) (hc : isT c) (hT : mT c s T N m l) (hG : jGt T N m l n) (hI : kIv T m q) (hk2 : q.1 2 ≤ 2200) {x3 z5 z6 : Int32} {b t : Nat} (hb : b < m) (hb2 : T 0 b = 2) (h6 : 6 ≤ t) (ht : t < q.1 1) (h10 : 10 ≤ q.2.1 0 t) : ∀ k i (a : Bool), i + k = q.2.1 4 t → ∀ r, fMt_fields_95 (d + 2) c (nI t) x3 z5 z6 (nI b) (if a = true ∧ kFr (fun i => jSm T (q.2.2 2 t i - 1) b) k i = 0 then 1 else 0) (zI 0) (mS c q s) = some r → fMt_fields_95 (d + 2) c (nI t) x3 z5 z6 (nI b) (if a = true then 1 else 0) (zI (kPr q t i)) (mS c q s) = some r := by
  have hm := hG.1
  have hn : q.1 1 < 140 := by have := hI.1; omega
  intro k
  induction k with
  | zero =>
    intro i a hi r hr
    have e : kPr q t i = 0 := by unfold kPr; rw [if_neg (by omega)]
    rw [e]
    have ea : (a = true ∧ kFr (fun i => jSm T (q.2.2 2 t i - 1) b) 0 i = 0) ↔ a = true := ⟨fun h => h.1, fun h => ⟨h, rfl⟩⟩
    simp only [ea] at hr
    exact hr
  | succ k ih =>
    intro i a hi r hr
    have hil : i < q.2.1 4 t := by omega
    obtain ⟨k1, k2, k3, k4, k5, k6⟩ := mS_kid (c := c) (s := s) hI h6 ht hil
    have hbb := (hI.2.2.2.1 t i h6 ht hil).2.2.2.2.2
    have hq1 : 0 < q.2.2 2 t i ∧ q.2.2 2 t i ≤ m ∧ kNam T (q.2.2 2 t i - 1) = true := by
      rcases hbb with g | g
      · omega
      · exact ⟨g.2.1, g.2.2.1, g.2.2.2.1⟩
    have hnm := kNam_w hq1.2.2
    have hal := Mt_sm (d + 1) hc (mS_T (q := q) hT) hG (x := q.2.2 2 t i - 1) (y := b) (by omega) hb hnm.1 hb2
    have ek : kFr (fun i => jSm T (q.2.2 2 t i - 1) b) (k + 1) i = if jSm T (q.2.2 2 t i - 1) b = true then i + 1 else kFr (fun i => jSm T (q.2.2 2 t i - 1) b) k (i + 1) := rfl
    have g111 : ∀ u : Int32, ∀ r, fMt_fields_95 (d + 2) c (nI t) x3 z5 z6 (nI b) u (zI (kPr q t (i + 1))) (mS c q s) = some r → fMt_fields_111 (d + 2) c (nI t) x3 z5 z6 (nI b) (nI (q.2.2 0 t i)) u (mS c q s) = some r := by
      intro u r hr
      refine eMt_fields_111 (d + 1) c _ _ _ _ _ _ _ _ hc _ ?_
      rw [ldI_n (by omega) (by omega), k6]
      exact hr
    have g110 : ∀ r, fMt_fields_95 (d + 2) c (nI t) x3 z5 z6 (nI b) 0 (zI (kPr q t (i + 1))) (mS c q s) = some r → fMt_fields_110 (d + 2) c (nI t) x3 z5 z6 (nI b) (nI (q.2.2 0 t i)) (mS c q s) = some r := fun r hr => eMt_fields_110 (d + 1) c _ _ _ _ _ _ _ hc _ (g111 0 r hr)
    have ihf := ih (i + 1) false (by omega)
    have iht := ih (i + 1) true (by omega)
    simp only [Bool.false_eq_true, false_and, if_false] at ihf
    simp only [true_and, if_true] at iht
    refine eMt_fields_95 (d + 1) c _ _ _ _ _ _ _ _ hc _ ?_
    rw [k2, zI_S, if_neg (nI_pos (by omega))]
    cases a with
    | false =>
      simp only [Bool.false_eq_true, false_and, if_false] at hr ⊢
      rw [if_pos trivial]
      exact g110 _ (ihf _ hr)
    | true =>
      simp only [true_and, if_true] at hr ⊢
      rw [if_neg (by decide), ldI_n (by omega) (by omega), k4, zI_pos (by omega), hal, cG_I]
      rw [ek] at hr
      by_cases hs : jSm T (q.2.2 2 t i - 1) b = true
      · rw [if_pos (by rw [hs]; decide)]
        rw [if_pos hs, if_neg (by omega)] at hr
        exact g110 _ (ihf _ hr)
      · rw [if_neg (by rw [if_neg hs]; decide)]
        rw [if_neg hs] at hr
        exact g111 1 _ (iht _ hr)
theorem Mt_f46 (cx : mCx c s T N m l n rec E dep) (d : Nat) {x3 : Int32} (hx3 : x3 + 1 = nI dep) {q0 : kP} {t e : Nat} (he : e ≤ m) : ∀ k lo cur q, jTl T (jVe T N m) k lo e cur → kLo T m q0 t q → q.2.1 0 t = 11 → q.2.1 4 t + k ≤ q.2.1 7 t → 2 * q.1 2 + jSw T e ≤ 4300 + jSw T lo → q.1 4 ≤ q.1 0 → kRn c s (fMt_fields_46 (E + d + 9) c (nI t) x3 (zI (kLs q t)) (zI cur) (mS c q s)) (kFl T rec t k cur q) := by
  obtain ⟨hc, hT, hG, hre, hrec⟩ := cx
  have hm := hG.1
  intro k
  induction k with
  | zero =>
    intro lo cur q hch hl _ _ _ _
    have : cur = 0 := hch.1
    subst this
    show fMt_fields_46 (E + d + 9) c (nI t) x3 (zI (kLs q t)) (zI 0) (mS c q s) = rV (mS c q s)
    refine eMt_fields_46 (E + d + 8) c _ _ _ _ _ hc _ ?_
    rw [if_pos (by decide)]
    rfl
  | succ k ih =>
    intro lo cur q hch hl h11 h7 hbud h40
    obtain ⟨hcur, e1, hP, hch⟩ := hch
    subst hcur
    have hlt := jVb_lt hP.1
    have hw := kWv_eq (T := T) (v := lo) hlt.1
    rw [← hP.2] at hw hlt
    have hle := jTl_lt jVe_lt _ _ _ _ hch
    have hsm := jSw_mono (T := T) (a := e1) e hle
    have ht := hl.2.2.1
    have hI := hl.1
    have hn : q.1 1 < 140 := by have := hI.1; omega
    have hTq := mS_T (q := q) hT
    have hkl := jVb_k hP.1
    have h732 := (hI.2.2.1 t ht.2.1 ht.2.2).2.2.2.2.2.2.2
    have flo := hTq.1 lo (by omega)
    have go46 : ∀ r, (if T 0 lo = 0 then fMt_fields_57 (E + d + 9) c (nI t) x3 (zI (kLs q t)) (nI lo) 1 (mS c q s) else fMt_fields_57 (E + d + 9) c (nI t) x3 (zI (kLs q t)) (nI lo) 0 (mS c q s)) = some r → fMt_fields_46 (E + d + 9) c (nI t) x3 (zI (kLs q t)) (zI (lo + 1)) (mS c q s) = some r := by
      intro r hr
      refine eMt_fields_46 (E + d + 8) c _ _ _ _ _ hc _ ?_
      rw [zI_S, if_neg (nI_pos (by omega)), ldI_n (by omega) (by omega), flo.1, show (0 : Int32) = nI 0 from rfl]
      simp (disch := omega) only [nI_eqE]
      by_cases h0 : T 0 lo = 0
      · rw [if_pos h0] at hr
        rw [if_neg (fun e => e h0)]
        exact hr
      · rw [if_neg h0] at hr
        rw [if_pos h0]
        exact hr
    unfold kFl
    rw [Nat.add_sub_cancel]
    by_cases h0 : T 0 lo = 0
    case neg =>
      rw [if_neg h0]
      rw [if_neg h0] at go46
      refine ⟨q, go46 _ ?_⟩
      refine eMt_fields_57 (E + d + 8) c _ _ _ _ _ _ hc _ ?_
      rw [ldI_n (by omega) (by omega), flo.2.1, Mt_nd0 _ hc, cG_T]
      rfl
    rw [if_pos h0]
    rw [if_pos h0] at go46
    have hm15 := Mt_mb (E + d + 1) hc hTq hG hP.1 h0 (w := 1060) (k := 15) (by decide)
    have hm12 := Mt_mb (E + d + 1) hc hTq hG hP.1 h0 (w := 1052) (k := 12) (by decide)
    have hm18 := fun q' => Mt_mb (E + d + 1) hc (mS_T (q := q') hT) hG hP.1 h0 (w := 1063) (k := 18) (by decide)
    have hle15 := kMb_le (W := kWs 15) hP.1 h0
    have hle12 := kMb_le (W := kWs 12) hP.1 h0
    have hle18 := kMb_le (W := kWs 18) hP.1 h0
    have hok15 := fun h => kMb_ok (W := kWs 15) hP.1 h0 h
    have hok12 := fun h => kMb_ok (W := kWs 12) hP.1 h0 h
    have hm3 := kGm_3 hP.1 h0 (W1 := kWs 15) (W2 := kWs 12) (W3 := kWs 18) (by decide) (by decide) (by decide)
    generalize kMb T lo (kWs 15) = nm at *
    generalize kMb T lo (kWs 12) = ty at *
    generalize kMb T lo (kWs 18) = dv at *
    have go57 : ∀ r, (if nm ≠ 0 ∧ T 0 (nm - 1) = 2 then fMt_fields_80 (E + d + 9) c (nI t) x3 (zI (kLs q t)) (nI lo) (nI (nm - 1)) 1 (mS c q s) else fMt_fields_80 (E + d + 9) c (nI t) x3 (zI (kLs q t)) (nI lo) (zI nm) 0 (mS c q s)) = some r → fMt_fields_46 (E + d + 9) c (nI t) x3 (zI (kLs q t)) (zI (lo + 1)) (mS c q s) = some r := by
      intro r hr
      refine go46 _ ?_
      refine eMt_fields_57 (E + d + 8) c _ _ _ _ _ _ hc _ ?_
      rw [ldI_n (by omega) (by omega), Mt_need1 _ hc, cG_V, hm15, cG_I]
      by_cases hz : nm = 0
      · rw [if_neg (fun e => e.1 hz)] at hr
        rw [hz] at hr ⊢
        rw [if_pos (by decide)]
        exact eMt_fields_79 (E + d + 8) c _ _ _ _ _ _ hc _ hr
      · have hkn := jVb_k (hok15 hz).1
        have ez : zI nm = nI (nm - 1) := zI_pos (by omega)
        rw [ez] at hr ⊢
        rw [if_neg (nI_pos (by omega)), ldI_n (by omega) (by omega), (hTq.1 (nm - 1) (by omega)).1]
        simp (disch := omega) only [nI_lit 2, nI_eqE]
        by_cases h2 : T 0 (nm - 1) = 2
        · rw [if_pos ⟨hz, h2⟩] at hr
          rw [if_neg (fun e => e h2)]
          exact hr
        · rw [if_neg (fun e => h2 e.2)] at hr
          rw [if_pos h2]
          exact eMt_fields_79 (E + d + 8) c _ _ _ _ _ _ hc _ hr
    by_cases hnm : nm ≠ 0 ∧ T 0 (nm - 1) = 2
    case neg =>
      rw [if_neg hnm]
      rw [if_neg hnm] at go57
      refine ⟨q, go57 _ ?_⟩
      refine eMt_fields_80 (E + d + 8) c _ _ _ _ _ _ _ hc _ ?_
      rw [ldI_n (by omega) (by omega), flo.2.1, Mt_nd0 _ hc, cG_T]
      rfl
    rw [if_pos hnm]
    rw [if_pos hnm] at go57
    have hv15 := hok15 hnm.1
    have hlt15 := jVb_lt hv15.1
    have hnam := Mt_isName (E + d + 8) hc hTq hG (v := nm - 1) (by omega) (by omega)
    have go80 : ∀ r, fMt_fields_95 (E + d + 9) c (nI t) x3 (zI (kLs q t)) (nI lo) (nI (nm - 1)) (if kNam T (nm - 1) = true ∧ kPt T q t (q.2.1 4 t) (nm - 1) = 0 then 1 else 0) (zI 0) (mS c q s) = some r → fMt_fields_46 (E + d + 9) c (nI t) x3 (zI (kLs q t)) (zI (lo + 1)) (mS c q s) = some r := by
      intro r hr
      refine go57 _ ?_
      refine eMt_fields_80 (E + d + 8) c _ _ _ _ _ _ _ hc _ ?_
      rw [ldI_n (by omega) (by omega), Mt_need1 _ hc, cG_V, hnam, cG_I, ldI_n (by omega) (by omega), mS_kids hI ht.2.1 ht.2.2]
      exact Mt_f95 (E + d + 7) hc hT hG hI (by omega) (by omega) hnm.2 ht.2.1 ht.2.2 (by omega) (q.2.1 4 t) 0 (kNam T (nm - 1)) (by omega) r hr
    by_cases hna : kNam T (nm - 1) = true ∧ kPt T q t (q.2.1 4 t) (nm - 1) = 0
    case neg =>
      rw [if_neg hna]
      rw [if_neg hna] at go80
      refine ⟨q, go80 _ ?_⟩
      refine eMt_fields_95 (E + d + 8) c _ _ _ _ _ _ _ _ hc _ ?_
      rw [if_pos (by decide), ldI_n (by omega) (by omega), (hTq.1 (nm - 1) (by omega)).2.1, Mt_nd0 _ hc, cG_T]
      rfl
    rw [if_pos hna]
    rw [if_pos hna] at go80
    have go95 : ∀ r, (if ty = 0 then fMt_fields_137 (E + d + 9) c (nI t) x3 (zI (kLs q t)) (nI lo) (nI (nm - 1)) (zI ty) 0 (mS c q s) else fMt_fields_137 (E + d + 9) c (nI t) x3 (zI (kLs q t)) (nI lo) (nI (nm - 1)) (zI ty) 1 (mS c q s)) = some r → fMt_fields_46 (E + d + 9) c (nI t) x3 (zI (kLs q t)) (zI (lo + 1)) (mS c q s) = some r := by
      intro r hr
      refine go80 _ ?_
      refine eMt_fields_95 (E + d + 8) c _ _ _ _ _ _ _ _ hc _ ?_
      rw [if_pos (by decide), ldI_n (by omega) (by omega), Mt_need1 _ hc, cG_V, hm12, cG_I]
      by_cases hz : ty = 0
      · rw [if_pos hz] at hr
        rw [if_pos (by rw [hz]; decide)]
        exact hr
      · rw [if_neg hz] at hr
        rw [if_neg (by rw [zI_pos (by omega)]; exact nI_pos (by omega))]
        exact hr
    by_cases hty : ty ≠ 0
    case neg =>
      rw [if_neg hty]
      rw [if_pos (by omega)] at go95
      refine ⟨q, go95 _ ?_⟩
      refine eMt_fields_137 (E + d + 8) c _ _ _ _ _ _ _ _ hc _ ?_
      rw [ldI_n (by omega) (by omega), flo.2.1, Mt_nd0 _ hc, cG_T]
      rfl
    rw [if_pos hty]
    rw [if_neg hty] at go95
    have hv12 := hok12 hty
    have l12 : (kWs 12).length = 4 := rfl
    have hnw := kNam_w hna.1
    have hsy := (kLo_sy (dv := dv) hl (by omega) (by omega) (show nm - 1 < m by omega) hna.1 hle18).2
    have hak := Mt_addKid (s := s) (E + d + 8) hc ht.2.1 ht.2.2 hn (by omega) (by omega) (fun hz => (hI.2.2.2.1 t (q.2.1 4 t - 1) ht.2.1 ht.2.2 (by omega)).1.1)
    have hx0 : (kAk t q).2.2 0 t (q.2.1 4 t) = q.1 2 := kAk_X0
    have hsn := mS_sn (c := c) (s := s) (T := T) (q := kAk t q) (t := t) (i := q.2.1 4 t) (x := nm - 1) (by rw [hx0]; exact Nat.lt_succ_self _)
    rw [hx0] at hsn
    have hx0' : (kSn T t (q.2.1 4 t) (nm - 1) (kAk t q)).2.2 0 t (q.2.1 4 t) = q.1 2 := by rw [kSn_X, if_neg (by omega), if_neg (by omega), hx0]
    have hsd := mS_sd (c := c) (s := s) (q := kSn T t (q.2.1 4 t) (nm - 1) (kAk t q)) (t := t) (i := q.2.1 4 t) (dv := dv) (by rw [hx0']; exact Nat.lt_succ_self _)
    rw [hx0'] at hsd
    have cq : ∀ j, (kSd t (q.2.1 4 t) dv (kSn T t (q.2.1 4 t) (nm - 1) (kAk t q))).1 j = if j = 6 then q.1 6 + 1 + T 2 (nm - 1) else if j = 2 then q.1 2 + 1 else q.1 j := fun j => rfl
    have hr := hrec d (ty - 1) false (kSd t (q.2.1 4 t) dv (kSn T t (q.2.1 4 t) (nm - 1) (kAk t q))) ⟨hsy.1.1, hv12.1, by rw [cq, if_neg (by omega), if_pos rfl]; omega, by rw [cq, cq, if_neg (by omega), if_neg (by omega), if_neg (by omega), if_neg (by omega)]; exact h40⟩
    rw [if_neg (by decide)] at hr
    have go137 : ∀ r, cG (fMt_schemaOf (E + d + 8) c (nI (ty - 1)) (nI dep) 0 (mS c (kSd t (q.2.1 4 t) dv (kSn T t (q.2.1 4 t) (nm - 1) (kAk t q))) s)) (kI fun v10 s9 => stI 2200 s9 (c + 15) (nI (q.1 2)) v10 (fun s11 => stI 2200 s11 (c + 19) (gI s11 c 29) (nI (q.1 2)) (fun s12 => wI s12 c 29 ((gI s12 c 29) + 1) (fun s13 => ldI 4200 s13 (c + 7) (nI lo) (fun v14 => fMt_fields_46 (E + d + 9) c (nI t) x3 (nI (q.1 2)) v14 s13))))) = some r → fMt_fields_46 (E + d + 9) c (nI t) x3 (zI (kLs q t)) (zI (lo + 1)) (mS c q s) = some r := by
      intro r hr
      refine go95 _ ?_
      refine eMt_fields_137 (E + d + 8) c _ _ _ _ _ _ _ _ hc _ ?_
      rw [ldI_n (by omega) (by omega), Mt_need1 _ hc, cG_V, show kLs q t = (if q.2.1 4 t = 0 then 0 else q.2.2 0 t (q.2.1 4 t - 1) + 1) from rfl, hak, cG_I, stI_n (by omega) (by omega), hsn, hm18, cG_I, stI_n (by omega) (by omega), hsd, zI_pos (by omega), hx3]
      exact hr
    cases hrc : rec (ty - 1) false (kSd t (q.2.1 4 t) dv (kSn T t (q.2.1 4 t) (nm - 1) (kAk t q))) with
    | error er =>
      obtain ⟨k0, e0⟩ := er
      rw [hrc] at hr
      obtain ⟨q', hr⟩ := hr
      refine ⟨q', go137 _ ?_⟩
      rw [hr, cG_T]
      rfl
    | ok qx =>
      obtain ⟨q1, x⟩ := qx
      rw [hrc] at hr
      have hr : fMt_schemaOf (E + d + 8) c (nI (ty - 1)) (nI dep) 0 (mS c (kSd t (q.2.1 4 t) dv (kSn T t (q.2.1 4 t) (nm - 1) (kAk t q))) s) = rI (nI x) (mS c q1 s) := hr
      have hok := hre.1 _ _ _ _ _ hsy.1.1 hv12.1 hrc
      obtain ⟨o1, o2, o3, o4, o5, o6, o7, o8, o9⟩ := hok
      obtain ⟨hl1, hr1, hxx⟩ := kLo_fm hsy.1 o1 o2
      have e4 := hr1 4 (by omega)
      have hss := kLo_ss (i := q.2.1 4 t) (x := x) hl1 (by rw [hr1 0 (by omega), hsy.2.2 0 (by omega) (by omega)]; omega) (by rw [e4, hsy.2.1]; omega) o3
      have hfd := kLo_fd (x := x) (dv := dv) (i := q.2.1 4 t) hss.1
      have rows : ∀ r, r = 0 ∨ r = 7 → (kFd T t (q.2.1 4 t) x dv (kSs t (q.2.1 4 t) x q1)).2.1 r t = q.2.1 r t := by
        intro r hr
        rw [kFd_Q (by omega), hss.2 r (by omega), hr1 r (by omega), hsy.2.2 r (by omega) (by omega)]
      have row4 : (kFd T t (q.2.1 4 t) x dv (kSs t (q.2.1 4 t) x q1)).2.1 4 t = q.2.1 4 t + 1 := by
        rw [kFd_Q (by omega), hss.2 4 (by omega), e4, hsy.2.1]
      have x1 : q1.2.2 0 t (q.2.1 4 t) = q.1 2 := by rw [hxx, kSd_X, if_neg (by omega), hx0']
      have xs : (kSs t (q.2.1 4 t) x q1).2.2 0 t (q.2.1 4 t) = q.1 2 := by rw [kSs_X, if_neg (by omega), x1]
      have xf : (kFd T t (q.2.1 4 t) x dv (kSs t (q.2.1 4 t) x q1)).2.2 0 t (q.2.1 4 t) = q.1 2 := by rw [kFd_X, xs]
      have hk2 := o2.1 2 (by omega)
      rw [cq, if_neg (by omega), if_pos rfl] at hk2
      rw [cq, if_neg (by omega), if_pos rfl] at o4
      rw [cq, cq, if_neg (by omega), if_neg (by omega), if_neg (by omega), if_neg (by omega)] at o8
      have hmss := mS_ss (c := c) (s := s) (q := q1) (t := t) (i := q.2.1 4 t) (x := x) (by rw [x1]; omega)
      rw [x1] at hmss
      have hmfd := mS_fd (c := c) (s := s) (T := T) (q := kSs t (q.2.1 4 t) x q1) (t := t) (i := q.2.1 4 t) (x := x) (dv := dv)
      rw [xs] at hmfd
      have s4 : (kSs t (q.2.1 4 t) x q1).1 4 = q1.1 4 := rfl
      rw [s4] at hmfd
      have els2 : kLs (kFd T t (q.2.1 4 t) x dv (kSs t (q.2.1 4 t) x q1)) t = q.1 2 + 1 := by
        unfold kLs
        rw [row4, if_neg (by omega), Nat.add_sub_cancel, xf]
      have cf : ∀ j, (kFd T t (q.2.1 4 t) x dv (kSs t (q.2.1 4 t) x q1)).1 j = if j = 4 then q1.1 4 + 1 else if j = 5 ∧ dv ≠ 0 then q1.1 5 + 1 else if j = 7 ∧ dv ≠ 0 then q1.1 7 + 2 * kWv T (dv - 1) else q1.1 j := fun j => kFd_1
      have ho1 := o1.1
      refine kRn_go (ih e1 _ _ hch hfd (by rw [rows 0 (by omega)]; exact h11) (by rw [row4, rows 7 (by omega)]; omega) ?_ ?_) (fun r hr2 => go137 _ ?_)
      · rw [cf, if_neg (by omega), if_neg (by omega), if_neg (by omega)]; omega
      · rw [cf 4, cf 0, if_pos rfl, if_neg (by omega), if_neg (by omega), if_neg (by omega)]; omega
      · rw [els2, zI_S] at hr2
        rw [hr, cG_I, stI_n (by omega) (by omega), hmss, mS_nd, s4, stI_n (by omega) (by omega), wI_eq, gI_pI, if_neg (by omega), mS_nd, s4, nI_add1, hmfd, ldI_n (by omega) (by omega), ((mS_T (q := kFd T t (q.2.1 4 t) x dv (kSs t (q.2.1 4 t) x q1)) hT).1 lo (by omega)).2.2.2.2.1]
        exact hr2
end
