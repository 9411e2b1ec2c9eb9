/-! the lake's reader: fields -/
section
variable {b pb qb : Nat} {q : kP} {s : aT} {T : Nat → Nat → Nat} {N : Nat → Int} {m l n : Nat} {rec : kR} {E dep : Nat}
theorem lS_fd0 {t i x : Nat} : lS b pb qb (kFd T t i x 0 q) s = lS b pb qb q s := by
  refine lS_ext (q := q) (q' := kFd T t i x 0 q) (fun k hk => ?_) (fun r i hr _ => kFd_Q (by omega)) (fun r i h1 h2 _ => kFd_Q (by omega)) (fun i _ => kFd_Q (by omega)) (fun r i hr hi => kFd_o (by omega) (fun _ => hi))
  rw [kFd_1, if_neg (by omega), if_neg (fun e => e.2 rfl), if_neg (fun e => e.2 rfl)]
theorem lS_fd1 {t i x dv : Nat} (hd : dv ≠ 0) : lS b pb qb (kFd T t i x dv q) s = lS b pb qb (kC (kQ (kQ q 16 (q.1 5) (dv - 1)) 17 (q.1 5) (q.2.1 6 t + i)) 5 (q.1 5 + 1)) s := by
  have cQ : ∀ r i', (kC (kQ (kQ q 16 (q.1 5) (dv - 1)) 17 (q.1 5) (q.2.1 6 t + i)) 5 (q.1 5 + 1)).2.1 r i' = if r = 17 ∧ i' = q.1 5 then q.2.1 6 t + i else if r = 16 ∧ i' = q.1 5 then dv - 1 else q.2.1 r i' := fun r i' => by rw [kC_Q, kQ_Q, kQ_Q]
  have c1 : ∀ k, (kC (kQ (kQ q 16 (q.1 5) (dv - 1)) 17 (q.1 5) (q.2.1 6 t + i)) 5 (q.1 5 + 1)).1 k = if k = 5 then q.1 5 + 1 else q.1 k := fun k => rfl
  refine lS_ext (q := kC (kQ (kQ q 16 (q.1 5) (dv - 1)) 17 (q.1 5) (q.2.1 6 t + i)) 5 (q.1 5 + 1)) (q' := kFd T t i x dv q) (fun k hk => ?_) (fun r i' hr _ => ?_) (fun r i' h1 h2 _ => ?_) (fun i' _ => ?_) (fun r i' hr hi => ?_)
  · rw [kFd_1, c1, if_neg (by omega)]
    by_cases h5 : k = 5
    · rw [if_pos ⟨h5, hd⟩, if_pos h5]
    · rw [if_neg (fun e => h5 e.1), if_neg (by omega), if_neg h5]
  · rw [kFd_Q (by omega), cQ, if_neg (by omega), if_neg (by omega)]
  · rw [kFd_Q (by omega), cQ, if_neg (by omega), if_neg (by omega)]
  · rw [kFd_Q (by omega), cQ, if_neg (by omega), if_neg (by omega)]
  · rw [c1, if_pos rfl] at hi
    rw [cQ]
    unfold kFd
    simp only
    rw [if_neg hd]
    simp only [kC_Q, kQ_Q]
    rcases hr with rfl | rfl
    · simp
    · simp
theorem Df_add (d : Nat) {t i x dv j : Nat} (hj : j = pb + q.2.1 6 t + i) (h5 : q.1 5 < 128) (hdv : dv ≤ 4096) : fDf_add d (nI j) (zI dv) (lS b pb qb q s) = rV (lS b pb qb (kFd T t i x dv q) s) := by
  refine eDf_add d _ _ _ _ ?_
  by_cases hd : dv = 0
  · subst hd
    rw [if_pos (by decide), lS_fd0]
    rfl
  · rw [zI_pos (by omega), if_neg (nI_ne (by omega)), lS_nw]
    simp (disch := omega) only [nI_lit 128, nI_ltE]
    rw [if_pos h5, stI_n (by omega) (by omega)]
    have e1 : gI (pI (lS b pb qb q s) 40 (q.1 5) (nI j)) 38 4 = nI (q.1 5) := by rw [gI_pI, if_neg (by omega), lS_nw]
    rw [e1, stI_n (by omega) (by omega)]
    have e2 : gI (pI (pI (lS b pb qb q s) 40 (q.1 5) (nI j)) 39 (q.1 5) (nI (dv - 1))) 38 4 = nI (q.1 5) := by rw [gI_pI, if_neg (by omega), e1]
    rw [e2, wI_eq, nI_add1, hj, Nat.add_assoc, lS_wt, lS_fd1 hd]
    rfl
theorem Sr_f54 (cy : lCy b pb qb s T N m l n rec E dep) (d : Nat) {dep0 : Nat} (hd : dep0 + 1 = dep) {q0 : kP} {t e : Nat} (he : e ≤ m) : ∀ k lo1 cur q, jTl T (jVe T N m) k lo1 e cur → kLo T m q0 t q → q.2.1 0 t = 11 → q.2.1 4 t + k = q.2.1 7 t → 2 * (pb + q.1 3) + jSw T e ≤ 20224 + 2 * k + jSw T lo1 → qb + q.1 6 + q.1 7 + 2 * jSw T e ≤ 72704 + 2 * jSw T lo1 → q.1 4 ≤ q.1 0 → q.1 5 ≤ q.1 4 → lRu b pb qb s t (fSr_fields_54 (E + d + 10) (nI (lo b t)) (nI dep0) (nI (q.2.1 7 t)) (zI cur) (nI (q.2.1 4 t)) (lS b pb qb q s)) (kFl T rec t k cur q) := by
  obtain ⟨hC, hT, hG, hre, hrec⟩ := cy
  have hm := hG.1
  intro k
  induction k with
  | zero =>
    intro lo1 cur q hch hl h11 h7 _ _ _ _
    have ht := hl.2.2.1
    have h732 := (hl.1.2.2.1 t ht.2.1 ht.2.2).2.2.2.2.2.2.2
    show fSr_fields_54 (E + d + 10) (nI (lo b t)) (nI dep0) (nI (q.2.1 7 t)) (zI cur) (nI (q.2.1 4 t)) (lS b pb qb q s) = rI (nI (lo b t)) (lS b pb qb q s)
    refine eSr_fields_54 (E + d + 9) _ _ _ _ _ _ _ ?_
    have e1 : nI (q.2.1 7 t) ≤ nI (q.2.1 4 t) := by rw [nI_leE (by omega) (by omega)]; omega
    rw [if_pos e1]
    rfl
  | succ k ih =>
    intro lo1 cur q hch hl h11 h7 hbud hpool h40 h54
    obtain ⟨hcur, e1, hP, hch⟩ := hch
    subst hcur
    have hlt := jVb_lt hP.1
    have hw := kWv_eq (T := T) (v := lo1) hlt.1
    rw [← hP.2] at hw hlt
    have hle := jTl_lt jVe_lt _ _ _ _ hch
    have hsm := jSw_mono (T := T) (a := e1) e hle
    have hrest := jTl_w hch
    have h2w := jVb_w2 hP.1
    have hI := hl.1
    have ht := hl.2.2.1
    have hn := hI.1
    have hltt := lo_lt hC (t := t) (by omega)
    have hIs := hI.2.2.1 t ht.2.1 ht.2.2
    have h732 := hIs.2.2.2.2.2.2.2
    have h674 := hIs.2.2.2.1
    have hTq := lS_T (b := b) (pb := pb) (qb := qb) (q := q) hT
    have hkl := jVb_k hP.1
    have flo := hTq.1 lo1 (by omega)
    have go54 : ∀ r, cG (fSr_isField (E + d + 9) (nI lo1) (nI (lo b t)) (nI (q.2.1 4 t)) (nI dep0) (lS b pb qb q s)) (kI fun v2 s1 => if ¬ v2 = 0 then ldI 4096 s1 18 (nI lo1) (fun v3 => fSr_fields_54 (E + d + 10) (nI (lo b t)) (nI dep0) (nI (q.2.1 7 t)) v3 (nI (q.2.1 4 t + 1)) s1) else rI (-1) s1) = some r → fSr_fields_54 (E + d + 10) (nI (lo b t)) (nI dep0) (nI (q.2.1 7 t)) (zI (lo1 + 1)) (nI (q.2.1 4 t)) (lS b pb qb q s) = some r := by
      intro r hr
      refine eSr_fields_54 (E + d + 9) _ _ _ _ _ _ _ ?_
      have e1 : ¬ nI (q.2.1 7 t) ≤ nI (q.2.1 4 t) := by rw [nI_leE (by omega) (by omega)]; omega
      rw [if_neg e1, zI_S, nI_add1]
      exact hr
    have herr : ∀ tt k0 e0, fSr_isField (E + d + 9) (nI lo1) (nI (lo b t)) (nI (q.2.1 4 t)) (nI dep0) (lS b pb qb q s) = rI 0 tt → lGb b pb qb tt (lF s (nI k0) (nI e0)) → ∃ tt, fSr_fields_54 (E + d + 10) (nI (lo b t)) (nI dep0) (nI (q.2.1 7 t)) (zI (lo1 + 1)) (nI (q.2.1 4 t)) (lS b pb qb q s) = rI (-1) tt ∧ lGb b pb qb tt (lF s (nI k0) (nI e0)) := by
      intro tt k0 e0 h hg
      refine ⟨tt, go54 _ ?_, hg⟩
      rw [h, cG_I, if_neg (by decide)]
      rfl
    have hok1 : ∀ q2, fSr_isField (E + d + 9) (nI lo1) (nI (lo b t)) (nI (q.2.1 4 t)) (nI dep0) (lS b pb qb q s) = rI 1 (lS b pb qb q2 s) → ∀ r, fSr_fields_54 (E + d + 10) (nI (lo b t)) (nI dep0) (nI (q.2.1 7 t)) (zI (T 4 lo1)) (nI (q.2.1 4 t + 1)) (lS b pb qb q2 s) = some r → fSr_fields_54 (E + d + 10) (nI (lo b t)) (nI dep0) (nI (q.2.1 7 t)) (zI (lo1 + 1)) (nI (q.2.1 4 t)) (lS b pb qb q s) = some r := by
      intro q2 h r hr
      refine go54 _ ?_
      rw [h, cG_I, if_pos (by decide), ldI_n (by omega) (by omega), ((lS_T (b := b) (pb := pb) (qb := qb) (q := q2) hT).1 lo1 (by omega)).2.2.2.2.1]
      exact hr
    unfold kFl
    rw [Nat.add_sub_cancel]
    have goF0 : ∀ x t9, (if T 0 lo1 = 0 then cG (fTx_member (E + d + 8) (nI lo1) 1018 (lS b pb qb q s)) (kI fun v3 s2 => if v3 = (-1) then fSr_isField_32 (E + d + 9) (nI lo1) s2 else ldI 4096 s2 14 v3 (fun v4 => if v4 = 2 then cG (fSr_isName (E + d + 8) v3 s2) (kI fun v6 s5 => if v6 = 0 then fSr_isField_56 (E + d + 9) v3 s5 else cG (fSc_partTold (E + d + 8) (nI (lo b t)) (nI (q.2.1 4 t)) v3 s5) (kI fun v8 s7 => if v8 = (-1) then cG (fTx_member (E + d + 8) (nI lo1) 1015 s7) (kI fun v10 s9 => if ¬ v10 = (-1) then ldI 5254 s9 25 (nI (lo b t)) (fun v11 => cG (fSc_addName (E + d + 8) v3 s9) (kI fun v13 s12 => stI 10112 s12 28 (v11 + nI (q.2.1 4 t)) v13 (fun s14 => cG (fSr_schemaOf (E + d + 8) v10 (nI dep) 0 s14) (kI fun v16 s15 => stI 10112 s15 29 (v11 + nI (q.2.1 4 t)) v16 (fun s17 => ldI 10112 s17 29 (v11 + nI (q.2.1 4 t)) (fun v18 => if ¬ v18 = (-1) then cG (fTx_member (E + d + 8) (nI lo1) 1021 s17) (kI fun v20 s19 => cG (fDf_add (E + d + 8) (v11 + nI (q.2.1 4 t)) v20 s19) (kV fun s21 => rI 1 s21)) else rI 0 s17)))))) else cG (fSr_fail (E + d + 8) 8 (nI lo1) s9) (kI fun v23 s22 => if v23 = (-1) then rI 0 s22 else rI 1 s22)) else fSr_isField_56 (E + d + 9) v3 s7)) else fSr_isField_32 (E + d + 9) (nI lo1) s2)) else rI 0 (lS b pb qb q (lF s 11 (nI (T 1 lo1))))) = rI x t9 → fSr_isField (E + d + 9) (nI lo1) (nI (lo b t)) (nI (q.2.1 4 t)) (nI dep0) (lS b pb qb q s) = rI x t9 := by
      intro x t9 hr
      refine eSr_isField (E + d + 8) _ _ _ _ _ _ ?_
      rw [ldI_n (by omega) (by omega), flo.1, show (0 : Int32) = nI 0 from rfl]
      simp (disch := omega) only [nI_eqE]
      by_cases h0 : T 0 lo1 = 0
      · rw [if_pos h0] at hr ⊢
        rw [nI_add1, hd]
        exact hr
      · rw [if_neg h0] at hr ⊢
        rw [Sr_fail _ hT hG (by omega), cG_I, if_pos rfl]
        exact hr
    by_cases h0 : T 0 lo1 = 0
    case neg =>
      rw [if_neg h0]
      rw [if_neg h0] at goF0
      exact herr _ _ _ (goF0 _ _ rfl) lGb_S
    rw [if_pos h0]
    rw [if_pos h0] at goF0
    have hm15 : fTx_member (E + d + 8) (nI lo1) 1018 (lS b pb qb q s) = rI (zI (kMb T lo1 (kWs 15))) (lS b pb qb q s) := Lt_mb (E + d + 1) hTq hG (sWd_ok (1018, 15) (by decide)) hP.1 h0
    have hm12 : fTx_member (E + d + 8) (nI lo1) 1015 (lS b pb qb q s) = rI (zI (kMb T lo1 (kWs 12))) (lS b pb qb q s) := Lt_mb (E + d + 1) hTq hG (sWd_ok (1015, 12) (by decide)) hP.1 h0
    have hm18 : ∀ q', fTx_member (E + d + 8) (nI lo1) 1021 (lS b pb qb q' s) = rI (zI (kMb T lo1 (kWs 18))) (lS b pb qb q' s) := fun q' => Lt_mb (E + d + 1) (lS_T (b := b) (pb := pb) (qb := qb) (q := q') hT) hG (sWd_ok (1021, 18) (by decide)) hP.1 h0
    have hle15 := kMb_le (W := kWs 15) hP.1 h0
    have hle12 := kMb_le (W := kWs 12) hP.1 h0
    have hle18 := kMb_le (W := kWs 18) hP.1 h0
    have hok15 := fun h => kMb_ok (W := kWs 15) hP.1 h0 h
    have hok12 := fun h => kMb_ok (W := kWs 12) hP.1 h0 h
    have hok18 := fun h => kMb_ok (W := kWs 18) hP.1 h0 h
    have hm3 := kGm_3 hP.1 h0 (W1 := kWs 15) (W2 := kWs 12) (W3 := kWs 18) (by decide) (by decide) (by decide)
    have l15 : (kWs 15).length = 4 := rfl
    have l12 : (kWs 12).length = 4 := rfl
    have l18 : (kWs 18).length = 7 := rfl
    generalize kMb T lo1 (kWs 15) = nm at *
    generalize kMb T lo1 (kWs 12) = ty at *
    generalize kMb T lo1 (kWs 18) = dv at *
    have f32 : fSr_isField_32 (E + d + 9) (nI lo1) (lS b pb qb q s) = rI 0 (lS b pb qb q (lF s 8 (nI (T 1 lo1)))) := by
      refine eSr_isField_32 (E + d + 8) _ _ _ ?_
      rw [Sr_fail _ hT hG (by omega), cG_I, if_pos rfl]
      rfl
    by_cases hnm : nm ≠ 0 ∧ T 0 (nm - 1) = 2
    case neg =>
      rw [if_neg hnm]
      refine herr (lS b pb qb q (lF s 8 (nI (T 1 lo1)))) _ _ (goF0 _ _ ?_) lGb_S
      rw [hm15, cG_I]
      by_cases hz : nm = 0
      · rw [if_pos (by rw [hz]; decide)]
        exact f32
      · have hkn := jVb_k (hok15 hz).1
        have hl15 := jVb_lt (hok15 hz).1
        rw [zI_pos (by omega), if_neg (nI_ne (by omega)), ldI_n (by omega) (by omega), (hTq.1 (nm - 1) (by omega)).1]
        simp (disch := omega) only [nI_lit 2, nI_eqE]
        rw [if_neg (fun e => hnm ⟨hz, e⟩)]
        exact f32
    rw [if_pos hnm]
    have hv15 := hok15 hnm.1
    have hlt15 := jVb_lt hv15.1
    have hw15 := kWv_eq (T := T) hlt15.1
    have hkn := jVb_k hv15.1
    have hnI : fSr_isName (E + d + 8) (nI (nm - 1)) (lS b pb qb q s) = rI (if kNam T (nm - 1) then 1 else 0) (lS b pb qb q s) := Sr_isName (E + d + 7) hTq hG (v := nm - 1) (by omega) hkn
    have hpt : fSc_partTold (E + d + 8) (nI (lo b t)) (nI (q.2.1 4 t)) (nI (nm - 1)) (lS b pb qb q s) = rI (zI (if T 0 (nm - 1) = 2 then kPt T q t (q.2.1 4 t) (nm - 1) else 0)) (lS b pb qb q s) := Sc_partTold (E + d + 7) hC hT hG hI (by omega) (by omega) (by omega) hkn ht.2.1 ht.2.2 (by omega)
    rw [if_pos hnm.2] at hpt
    have f56 : fSr_isField_56 (E + d + 9) (nI (nm - 1)) (lS b pb qb q s) = rI 0 (lS b pb qb q (lF s 9 (nI (T 1 (nm - 1))))) := by
      refine eSr_isField_56 (E + d + 8) _ _ _ ?_
      rw [Sr_fail _ hT hG (by omega), cG_I, if_pos rfl]
      rfl
    have goF1 : ∀ x t9, (if kNam T (nm - 1) = true ∧ kPt T q t (q.2.1 4 t) (nm - 1) = 0 then (if ty ≠ 0 then cG (fSc_addName (E + d + 8) (nI (nm - 1)) (lS b pb qb q s)) (kI fun v13 s12 => stI 10112 s12 28 (nI (pb + q.2.1 6 t + q.2.1 4 t)) v13 (fun s14 => cG (fSr_schemaOf (E + d + 8) (nI (ty - 1)) (nI dep) 0 s14) (kI fun v16 s15 => stI 10112 s15 29 (nI (pb + q.2.1 6 t + q.2.1 4 t)) v16 (fun s17 => ldI 10112 s17 29 (nI (pb + q.2.1 6 t + q.2.1 4 t)) (fun v18 => if ¬ v18 = (-1) then cG (fTx_member (E + d + 8) (nI lo1) 1021 s17) (kI fun v20 s19 => cG (fDf_add (E + d + 8) (nI (pb + q.2.1 6 t + q.2.1 4 t)) v20 s19) (kV fun s21 => rI 1 s21)) else rI 0 s17))))) else rI 0 (lS b pb qb q (lF s 8 (nI (T 1 lo1))))) else rI 0 (lS b pb qb q (lF s 9 (nI (T 1 (nm - 1)))))) = rI x t9 → fSr_isField (E + d + 9) (nI lo1) (nI (lo b t)) (nI (q.2.1 4 t)) (nI dep0) (lS b pb qb q s) = rI x t9 := by
      intro x t9 hr
      refine goF0 _ _ ?_
      rw [hm15, cG_I, zI_pos (by omega), if_neg (nI_ne (by omega)), ldI_n (by omega) (by omega), (hTq.1 (nm - 1) (by omega)).1]
      simp (disch := omega) only [nI_lit 2, nI_eqE]
      rw [if_pos hnm.2, hnI, cG_I]
      by_cases hna : kNam T (nm - 1) = true
      · rw [if_neg (by rw [hna]; decide), hpt, cG_I]
        by_cases hz : kPt T q t (q.2.1 4 t) (nm - 1) = 0
        · rw [if_pos ⟨hna, hz⟩] at hr
          rw [hz, if_pos (by decide), hm12, cG_I]
          by_cases hty : ty ≠ 0
          · rw [if_pos hty] at hr
            rw [zI_pos (by omega), if_pos (nI_ne (by omega)), ldI_n (by omega) (by omega), lS_25 ht.2.1 ht.2.2, nI_addE]
            exact hr
          · rw [if_neg hty] at hr
            have hz0 : ty = 0 := by omega
            rw [hz0, if_neg (by decide), Sr_fail _ hT hG (by omega), cG_I, if_pos rfl]
            exact hr
        · rw [if_neg (fun e => hz e.2)] at hr
          have hpb := kFr_1 _ _ hz
          have hpb2 : kPt T q t (q.2.1 4 t) (nm - 1) ≤ 32 := by unfold kPt; omega
          rw [zI_pos (by omega), if_neg (nI_ne (by omega)), f56]
          exact hr
      · rw [if_neg (fun e => hna e.1)] at hr
        rw [if_pos (by rw [if_neg hna]), f56]
        exact hr
    by_cases hna : kNam T (nm - 1) = true ∧ kPt T q t (q.2.1 4 t) (nm - 1) = 0
    case neg =>
      rw [if_neg hna]
      rw [if_neg hna] at goF1
      exact herr _ _ _ (goF1 _ _ rfl) lGb_S
    rw [if_pos hna]
    rw [if_pos hna] at goF1
    by_cases hty : ty ≠ 0
    case neg =>
      rw [if_neg hty]
      rw [if_neg hty] at goF1
      exact herr _ _ _ (goF1 _ _ rfl) lGb_S
    rw [if_pos hty]
    rw [if_pos hty] at goF1
    have hv12 := hok12 hty
    have hnw := kNam_w hna.1
    have hdw : dv = 0 ∨ dv ≠ 0 ∧ kGm T lo1 (kWs 18) = 10 + kWv T (dv - 1) := by
      by_cases hz : dv = 0
      · exact .inl hz
      · exact .inr ⟨hz, (hok18 hz).2.2⟩
    have hsy := (kLo_sy (dv := dv) hl (by omega) (by omega) (show nm - 1 < m by omega) hna.1 hle18).2
    have cq : ∀ j, (kSd t (q.2.1 4 t) dv (kSn T t (q.2.1 4 t) (nm - 1) (kAk t q))).1 j = if j = 6 then q.1 6 + 1 + T 2 (nm - 1) else if j = 2 then q.1 2 + 1 else q.1 j := fun j => rfl
    have cq0 := cq 0
    have cq3 := cq 3
    have cq4 := cq 4
    have cq5 := cq 5
    have cq6 := cq 6
    have cq7 := cq 7
    simp at cq0 cq3 cq4 cq5 cq6 cq7
    have hr := hrec d (ty - 1) false (kSd t (q.2.1 4 t) dv (kSn T t (q.2.1 4 t) (nm - 1) (kAk t q))) ⟨hsy.1.1, hv12.1, by omega, by omega, by omega, by omega⟩
    rw [if_neg (by decide), lS_sd] at hr
    have goF2 : ∀ x t9, cG (fSr_schemaOf (E + d + 8) (nI (ty - 1)) (nI dep) 0 (lS b pb qb (kSn T t (q.2.1 4 t) (nm - 1) (kAk t q)) s)) (kI fun v16 s15 => stI 10112 s15 29 (nI (pb + q.2.1 6 t + q.2.1 4 t)) v16 (fun s17 => ldI 10112 s17 29 (nI (pb + q.2.1 6 t + q.2.1 4 t)) (fun v18 => if ¬ v18 = (-1) then cG (fTx_member (E + d + 8) (nI lo1) 1021 s17) (kI fun v20 s19 => cG (fDf_add (E + d + 8) (nI (pb + q.2.1 6 t + q.2.1 4 t)) v20 s19) (kV fun s21 => rI 1 s21)) else rI 0 s17))) = rI x t9 → fSr_isField (E + d + 9) (nI lo1) (nI (lo b t)) (nI (q.2.1 4 t)) (nI dep0) (lS b pb qb q s) = rI x t9 := by
      intro x t9 hr
      refine goF1 _ _ ?_
      have hak : lS b pb qb q s = lS b pb qb (kAk t q) s := lS_ak.symm
      have p6 : (kAk t q).2.1 6 t = q.2.1 6 t := kAk_r (by omega) (by omega)
      have h3 : (kAk t q).1 3 = q.1 3 := rfl
      have h6' : (kAk t q).1 6 = q.1 6 := rfl
      have hadd : fSc_addName (E + d + 8) (nI (nm - 1)) (lS b pb qb (kAk t q) s) = rI (nI (qb + (kAk t q).1 6)) (lS b pb qb (kPn T (nm - 1) (kAk t q)) s) := Sc_addName (E + d + 1) hT hG (by omega) hnw.1 (by omega) (by rw [h6']; omega)
      have hsn := lS_sn (b := b) (pb := pb) (qb := qb) (s := s) (T := T) (q := kAk t q) (t := t) (i := q.2.1 4 t) (x := nm - 1) (by rw [p6, h3]; omega)
      rw [p6] at hsn
      rw [hak, hadd, cG_I, stI_n (by omega) (by omega), hsn]
      exact hr
    cases hrc : rec (ty - 1) false (kSd t (q.2.1 4 t) dv (kSn T t (q.2.1 4 t) (nm - 1) (kAk t q))) with
    | error er =>
      obtain ⟨k0, e0⟩ := er
      rw [hrc] at hr
      obtain ⟨tt, hr, hg⟩ := hr
      refine herr (pI tt 29 (pb + q.2.1 6 t + q.2.1 4 t) (-1)) k0 e0 (goF2 _ _ ?_) (lGb_pI hg (by unfold lGa; omega))
      have e9 : gI (pI tt 29 (pb + q.2.1 6 t + q.2.1 4 t) (-1)) 29 (pb + q.2.1 6 t + q.2.1 4 t) = -1 := by rw [gI_pI, if_pos ⟨rfl, rfl⟩]
      rw [hr, cG_I, stI_n (by omega) (by omega), ldI_n (by omega) (by omega), e9, if_neg (by decide)]
    | ok qx =>
      obtain ⟨q1, x⟩ := qx
      rw [hrc] at hr
      have hr : fSr_schemaOf (E + d + 8) (nI (ty - 1)) (nI dep) 0 (lS b pb qb (kSn T t (q.2.1 4 t) (nm - 1) (kAk t q)) s) = rI (nI (lo b x)) (lS b pb qb q1 s) := hr
      have hok := hre.1 _ _ _ _ _ hsy.1.1 hv12.1 hrc
      obtain ⟨o1, o2, o3, o4, o5, o6, o7, o8, o9⟩ := hok
      obtain ⟨hl1, hr1, hxx⟩ := kLo_fm hsy.1 o1 o2
      have ho1 := o1.1
      have hltx := lo_lt hC (t := x) (by omega)
      have e4 := hr1 4 (by omega)
      have e6 := hr1 6 (by omega)
      rw [hsy.2.2 6 (by omega) (by omega)] at e6
      have g3 := o2.1 3 (by omega)
      have hss := kLo_ss (i := q.2.1 4 t) (x := x) hl1 (by rw [hr1 0 (by omega), hsy.2.2 0 (by omega) (by omega)]; omega) (by rw [e4, hsy.2.1]; omega) o3
      have hfd := kLo_fd (x := x) (dv := dv) (i := q.2.1 4 t) hss.1
      have rows : ∀ r, r = 0 ∨ r = 7 → (kFd T t (q.2.1 4 t) x dv (kSs t (q.2.1 4 t) x q1)).2.1 r t = q.2.1 r t := by
        intro r hr
        rw [kFd_Q (by omega), hss.2 r (by omega), hr1 r (by omega), hsy.2.2 r (by omega) (by omega)]
      have row4 : (kFd T t (q.2.1 4 t) x dv (kSs t (q.2.1 4 t) x q1)).2.1 4 t = q.2.1 4 t + 1 := by
        rw [kFd_Q (by omega), hss.2 4 (by omega), e4, hsy.2.1]
      have cf : ∀ j, (kFd T t (q.2.1 4 t) x dv (kSs t (q.2.1 4 t) x q1)).1 j = if j = 4 then q1.1 4 + 1 else if j = 5 ∧ dv ≠ 0 then q1.1 5 + 1 else if j = 7 ∧ dv ≠ 0 then q1.1 7 + 2 * kWv T (dv - 1) else q1.1 j := fun j => kFd_1
      have hF : fSr_isField (E + d + 9) (nI lo1) (nI (lo b t)) (nI (q.2.1 4 t)) (nI dep0) (lS b pb qb q s) = rI 1 (lS b pb qb (kFd T t (q.2.1 4 t) x dv (kSs t (q.2.1 4 t) x q1)) s) := by
        refine goF2 _ _ ?_
        have hls := lS_ss (b := b) (pb := pb) (qb := qb) (s := s) (q := q1) (t := t) (i := q.2.1 4 t) (x := x) (by rw [e6]; omega)
        rw [e6] at hls
        have s3 : (kSs t (q.2.1 4 t) x q1).1 3 = q1.1 3 := rfl
        have s5 : (kSs t (q.2.1 4 t) x q1).1 5 = q1.1 5 := rfl
        have s6 : (kSs t (q.2.1 4 t) x q1).2.1 6 t = q.2.1 6 t := by rw [kSs_Q, if_neg (by omega), if_neg (by omega), e6]
        have s29 : gI (lS b pb qb (kSs t (q.2.1 4 t) x q1) s) 29 (pb + q.2.1 6 t + q.2.1 4 t) = nI (lo b x) := by
          rw [Nat.add_assoc, lS_29 (by rw [s3]; omega), kSs_Q, if_pos ⟨rfl, by rw [e6]⟩, zL_S]
        have hdf := Df_add (b := b) (pb := pb) (qb := qb) (s := s) (T := T) (q := kSs t (q.2.1 4 t) x q1) (E + d + 8) (t := t) (i := q.2.1 4 t) (x := x) (dv := dv) (j := pb + q.2.1 6 t + q.2.1 4 t) (by rw [s6]) (by rw [s5]; omega) (by omega)
        rw [hr, cG_I, stI_n (by omega) (by omega), hls, ldI_n (by omega) (by omega), s29, if_pos (nI_ne (by omega)), hm18, cG_I, hdf, cG_V]
      have cf0 := cf 0
      have cf3 := cf 3
      have cf4 := cf 4
      have cf6 := cf 6
      rw [if_neg (by omega), if_neg (by omega), if_neg (by omega)] at cf0 cf3 cf6
      rw [if_pos rfl] at cf4
      have cf5 : (kFd T t (q.2.1 4 t) x dv (kSs t (q.2.1 4 t) x q1)).1 5 ≤ q1.1 5 + 1 := by rw [cf, if_neg (by omega)]; split <;> (try split) <;> omega
      have cf7 : (kFd T t (q.2.1 4 t) x dv (kSs t (q.2.1 4 t) x q1)).1 7 ≤ q1.1 7 + 2 * kGm T lo1 (kWs 18) := by
        rw [cf, if_neg (by omega), if_neg (by omega)]
        split
        · omega
        · omega
      have hih := ih e1 _ _ hch hfd (by rw [rows 0 (by omega)]; exact h11) (by rw [row4, rows 7 (by omega)]; omega) (by omega) (by omega) (by omega) (by omega)
      rw [row4, rows 7 (by omega)] at hih
      exact lRu_go hih (hok1 _ hF)
end
