/-! the lake's reader: sizes, symbols -/
theorem aLcmp_le {x y : Int64} : (aLcmp x y ≤ 0) = (x.toInt ≤ y.toInt) := by
  rw [← Int32.not_lt, aLcmp_gt]
  apply propext
  omega
section
variable {b pb qb : Nat} {q : kP} {s : aT} {T : Nat → Nat → Nat} {N : Nat → Int} {m l n : Nat} {rec : kR} {E dep : Nat}
theorem Sr_fixed (d : Nat) (hC : lCx b pb qb s) (hT : lT s T N m l) (hG : jGt T N m l n) {t v : Nat} (h6 : 6 ≤ t) (ht : t < q.1 1) (hn : q.1 1 ≤ 134) (h9 : q.2.1 0 t = 9) (hv : jVb T N m v) (h0 : T 0 v = 0) : lRm b pb qb s (fSr_fixed (d + 9) (nI v) (nI (lo b t)) (lS b pb qb q s)) (kFx T N v t q) := by
  have hm := hG.1
  have hlt := jVb_lt hv
  have hTq := lS_T (b := b) (pb := pb) (qb := qb) (q := q) hT
  have hltt := lo_lt hC (t := t) (by omega)
  have hmem : fTx_member (d + 8) (nI v) 1019 (lS b pb qb q s) = rI (zI (kMb T v (kWs 16))) (lS b pb qb q s) := Lt_mb (d + 1) hTq hG (sWd_ok (1019, 16) (by decide)) hv h0
  unfold kFx
  have hle16 := kMb_le (W := kWs 16) hv h0
  have hok16 := fun h => kMb_ok (W := kWs 16) hv h0 h
  generalize kMb T v (kWs 16) = z at *
  by_cases hz : z = 0
  · rw [if_pos hz]
    refine ⟨_, ?_, lGb_S (q := q)⟩
    refine eSr_fixed (d + 8) _ _ _ _ ?_
    rw [hmem, cG_I, hz, if_neg (by decide), Sr_fail _ hT hG (by omega), cG_I]
    rfl
  · rw [if_neg hz]
    have hvz := hok16 hz
    have hkz := jVb_k hvz.1
    have hnum := fun h => jVb_num hvz.1 h
    obtain ⟨z, rfl⟩ : ∃ z', z = z' + 1 := ⟨z - 1, by omega⟩
    rw [Nat.add_sub_cancel] at *
    have fz := hTq.1 z (by omega)
    have g37 : fSr_fixed_37 (d + 9) (nI z) (lS b pb qb q s) = rI (-1) (lS b pb qb q (lF s 10 (nI (T 1 z)))) := by
      refine eSr_fixed_37 (d + 8) _ _ _ ?_
      rw [Sr_fail _ hT hG (by omega), cG_I]
      rfl
    have go : ∀ r, (if T 0 z = 3 ∧ 0 ≤ N z ∧ N z ≤ 64 then rI (nI (lo b t)) (lS b pb qb (kQ q 8 t ((N z).toNat + 1)) s) else rI (-1) (lS b pb qb q (lF s 10 (nI (T 1 z))))) = some r → fSr_fixed (d + 9) (nI v) (nI (lo b t)) (lS b pb qb q s) = some r := by
      intro r hr
      refine eSr_fixed (d + 8) _ _ _ _ ?_
      rw [hmem, cG_I, zI_S, if_pos (nI_ne (by omega)), ldI_n (by omega) (by omega), fz.1]
      simp (disch := omega) only [nI_lit 3, nI_eqE]
      by_cases h3 : T 0 z = 3
      case neg =>
        rw [if_neg (fun e => h3 e.1)] at hr
        rw [if_pos h3, g37]
        exact hr
      have hb := hnum h3
      have ei : (Int64.ofInt (N z)).toInt = N z := Int64.toInt_ofInt_of_le (by omega) (by omega)
      rw [if_neg (fun e => e h3), ldL_n (by omega) (by omega), fz.2.2.2.2.2 h3, ldL_n (by omega) (by omega), fz.2.2.2.2.2 h3]
      simp only [aLcmp_lt, aLcmp_le, ei]
      have e0 : (0 : Int64).toInt = 0 := rfl
      have e64 : (64 : Int64).toInt = 64 := rfl
      rw [e0, e64]
      by_cases hlt0 : N z < 0
      · rw [if_neg (by omega)] at hr
        rw [if_pos hlt0, g37]
        exact hr
      · rw [if_neg hlt0]
        by_cases hgt : N z ≤ 64
        · rw [if_pos ⟨h3, by omega, hgt⟩] at hr
          have eN : (Int64.ofInt (N z)).toInt32 = nI (N z).toNat := by
            have e1 : N z = ((N z).toNat : Int) := by omega
            rw [e1]
            exact long_nI
          have ez : nI (N z).toNat = zI ((N z).toNat + 1) := (zI_S _).symm
          rw [if_pos hgt, ldL_n (by omega) (by omega), fz.2.2.2.2.2 h3, eN, stI_n (by omega) (by omega), ez, lS_w27b h6 ht (by omega)]
          exact hr
        · rw [if_neg (by omega)] at hr
          rw [if_neg hgt, g37]
          exact hr
    by_cases hN : T 0 z = 3 ∧ 0 ≤ N z ∧ N z ≤ 64
    · rw [if_pos hN]
      rw [if_pos hN] at go
      exact go _ rfl
    · rw [if_neg hN]
      rw [if_neg hN] at go
      exact ⟨_, go _ rfl, lGb_S⟩
theorem Sr_s57 (d : Nat) (hC : lCx b pb qb s) (hT : lT s T N m l) (hG : jGt T N m l n) {x1 : Int32} {q0 : kP} {t e : Nat} (he : e ≤ m) : ∀ k lo1 cur q, jTl T (jVe T N m) k lo1 e cur → kLo T m q0 t q → 10 ≤ q.2.1 0 t → q.2.1 4 t + k = q.2.1 7 t → pb + q.1 3 ≤ 10112 → qb + q.1 6 + q.1 7 + 2 * jSw T e ≤ 72704 + 2 * jSw T lo1 → match kYl T t k cur q with
    | .ok q' => ∀ r, cG (fSr_defaultSymbol (d + 9) x1 (nI (lo b t)) (lS b pb qb q' s)) (kI fun v2 s1 => rI v2 s1) = some r → fSr_symbols_57 (d + 10) x1 (nI (lo b t)) (nI (q.2.1 7 t)) (zI cur) (nI (q.2.1 4 t)) (lS b pb qb q s) = some r
    | .error (k0, e0) => ∃ tt, fSr_symbols_57 (d + 10) x1 (nI (lo b t)) (nI (q.2.1 7 t)) (zI cur) (nI (q.2.1 4 t)) (lS b pb qb q s) = rI (-1) tt ∧ lGb b pb qb tt (lF s (nI k0) (nI e0)) := by
  have hm := hG.1
  intro k
  induction k with
  | zero =>
    intro lo1 cur q hch hl h10 h7 _ _
    intro r hr
    have ht := hl.2.2.1
    have h732 := (hl.1.2.2.1 t ht.2.1 ht.2.2).2.2.2.2.2.2.2
    refine eSr_symbols_57 (d + 9) _ _ _ _ _ _ _ ?_
    have e1 : nI (q.2.1 7 t) ≤ nI (q.2.1 4 t) := by rw [nI_leE (by omega) (by omega)]; omega
    rw [if_pos e1]
    exact hr
  | succ k ih =>
    intro lo1 cur q hch hl h10 h7 hbud hpool
    obtain ⟨hcur, e1, hP, hch⟩ := hch
    subst hcur
    have hlt := jVb_lt hP.1
    have hw := kWv_eq (T := T) (v := lo1) hlt.1
    rw [← hP.2] at hw hlt
    have hle := jTl_lt jVe_lt _ _ _ _ hch
    have hsm := jSw_mono (T := T) (a := e1) e hle
    have ht := hl.2.2.1
    have hI := hl.1
    have hn := hI.1
    have hltt := lo_lt hC (t := t) (by omega)
    have hTq := lS_T (b := b) (pb := pb) (qb := qb) (q := q) hT
    have hnm : fSr_isName (d + 9) (nI lo1) (lS b pb qb q s) = rI (if kNam T lo1 then 1 else 0) (lS b pb qb q s) := Sr_isName (d + 8) hTq hG (v := lo1) (by omega) (jVb_k hP.1)
    have hIs := hI.2.2.1 t ht.2.1 ht.2.2
    have h732 := hIs.2.2.2.2.2.2.2
    have h674 := hIs.2.2.2.1
    have hpt : fSc_partTold (d + 9) (nI (lo b t)) (nI (q.2.1 4 t)) (nI lo1) (lS b pb qb q s) = rI (zI (if T 0 lo1 = 2 then kPt T q t (q.2.1 4 t) lo1 else 0)) (lS b pb qb q s) := Sc_partTold (d + 8) hC hT hG hI (by omega) hbud (by omega) (jVb_k hP.1) ht.2.1 ht.2.2 h10
    have f74 : fSr_symbols_74 (d + 10) (nI lo1) (lS b pb qb q s) = rI (-1) (lS b pb qb q (lF s 11 (nI (T 1 lo1)))) := by
      refine eSr_symbols_74 (d + 9) _ _ _ ?_
      rw [Sr_fail _ hT hG (by omega), cG_I]
      rfl
    have go : ∀ r, (if kNam T lo1 = true ∧ kPt T q t (q.2.1 4 t) lo1 = 0 then fSr_symbols_57 (d + 10) x1 (nI (lo b t)) (nI (q.2.1 7 t)) (zI (T 4 lo1)) (nI (q.2.1 4 t + 1)) (lS b pb qb (kSn T t (q.2.1 4 t) lo1 (kAk t q)) s) else rI (-1) (lS b pb qb q (lF s 11 (nI (T 1 lo1))))) = some r → fSr_symbols_57 (d + 10) x1 (nI (lo b t)) (nI (q.2.1 7 t)) (zI (lo1 + 1)) (nI (q.2.1 4 t)) (lS b pb qb q s) = some r := by
      intro r hr
      refine eSr_symbols_57 (d + 9) _ _ _ _ _ _ _ ?_
      have e1 : ¬ nI (q.2.1 7 t) ≤ nI (q.2.1 4 t) := by rw [nI_leE (by omega) (by omega)]; omega
      rw [if_neg e1, zI_S, hnm, cG_I]
      by_cases hna : kNam T lo1 = true
      · have hnw := kNam_w hna
        rw [if_neg (by rw [hna]; decide), hpt, cG_I, if_pos hnw.1]
        by_cases hz : kPt T q t (q.2.1 4 t) lo1 = 0
        · rw [if_pos ⟨hna, hz⟩] at hr
          have hak : lS b pb qb q s = lS b pb qb (kAk t q) s := lS_ak.symm
          have p6 : (kAk t q).2.1 6 t = q.2.1 6 t := kAk_r (by omega) (by omega)
          have h3 : (kAk t q).1 3 = q.1 3 := rfl
          have h6' : (kAk t q).1 6 = q.1 6 := rfl
          have hadd : fSc_addName (d + 9) (nI lo1) (lS b pb qb (kAk t q) s) = rI (nI (qb + (kAk t q).1 6)) (lS b pb qb (kPn T lo1 (kAk t q)) s) := Sc_addName (d + 2) hT hG (by omega) hnw.1 (by omega) (by rw [h6']; omega)
          have hsn := lS_sn (b := b) (pb := pb) (qb := qb) (s := s) (T := T) (q := kAk t q) (t := t) (i := q.2.1 4 t) (x := lo1) (by rw [p6, h3]; omega)
          rw [p6] at hsn
          rw [hz, if_pos (by decide), ldI_n (by omega) (by omega), lS_25 ht.2.1 ht.2.2, hak, hadd, cG_I, nI_addE, stI_n (by omega) (by omega), hsn, ldI_n (by omega) (by omega), ((lS_T (b := b) (pb := pb) (qb := qb) (q := kSn T t (q.2.1 4 t) lo1 (kAk t q)) hT).1 lo1 (by omega)).2.2.2.2.1, nI_add1]
          exact hr
        · rw [if_neg (fun e => hz e.2)] at hr
          have hpb := kFr_1 _ _ hz
          have hpb2 : kPt T q t (q.2.1 4 t) lo1 ≤ 32 := by unfold kPt; omega
          rw [zI_pos (by omega), if_neg (nI_ne (by omega)), f74]
          exact hr
      · rw [if_neg (fun e => hna e.1)] at hr
        rw [if_pos (by rw [if_neg hna]), f74]
        exact hr
    unfold kYl
    rw [Nat.add_sub_cancel]
    by_cases hc : kNam T lo1 = true ∧ kPt T q t (q.2.1 4 t) lo1 = 0
    · rw [if_pos hc]
      rw [if_pos hc] at go
      have hnw := kNam_w hc.1
      have hsy := (kLo_sy (dv := 0) hl h10 (by omega) (show lo1 < m by omega) hc.1 (by omega)).1
      have c : ∀ j, (kSn T t (q.2.1 4 t) lo1 (kAk t q)).1 j = if j = 6 then q.1 6 + 1 + T 2 lo1 else if j = 2 then q.1 2 + 1 else q.1 j := fun j => rfl
      have ih := ih e1 _ _ hch hsy.1 (by rw [hsy.2.2 0 (by omega) (by omega)]; exact h10) (by rw [hsy.2.1, hsy.2.2 7 (by omega) (by omega)]; omega) (by rw [c, if_neg (by omega), if_neg (by omega)]; exact hbud) (by rw [c, c, if_pos rfl, if_neg (by omega), if_neg (by omega)]; omega)
      rw [hsy.2.1, hsy.2.2 7 (by omega) (by omega)] at ih
      revert ih
      cases kYl T t k (T 4 lo1) (kSn T t (q.2.1 4 t) lo1 (kAk t q)) with
      | error er => obtain ⟨k0, e0⟩ := er; rintro ⟨tt, h, hg⟩; exact ⟨tt, go _ h, hg⟩
      | ok q2 => exact fun h r hr => go _ (h r hr)
    · rw [if_neg hc]
      rw [if_neg hc] at go
      exact ⟨_, go _ rfl, lGb_S⟩
theorem Sr_symbols (d : Nat) (hC : lCx b pb qb s) (hT : lT s T N m l) (hG : jGt T N m l n) {q0 : kP} {t v : Nat} (hl : kLo T m q0 t q) (h10 : q.2.1 0 t = 10) (h4 : q.2.1 4 t = 0) (hv : jVb T N m v) (h0 : T 0 v = 0) (hbud : 2 * (pb + q.1 3) + kWv T v ≤ 20226) (hpool : qb + q.1 6 + q.1 7 + 2 * kWv T v ≤ 72704 + kGm T v (kWs 15)) : lRm b pb qb s (fSr_symbols (d + 10) (nI v) (nI (lo b t)) (lS b pb qb q s)) (kEn T v t q) := by
  have hm := hG.1
  have hlt := jVb_lt hv
  have hTq := lS_T (b := b) (pb := pb) (qb := qb) (q := q) hT
  have hn := hl.1.1
  have ht := hl.2.2.1
  have hltt := lo_lt hC (t := t) (by omega)
  have hmem : ∀ q' k w, (w, k) ∈ [(1046, 0), (1047, 1), (1048, 2), (1049, 3), (1050, 4), (1051, 5), (1052, 12), (1053, 6), (1054, 7), (1055, 13), (1056, 14), (1057, 9), (1058, 10), (1059, 11), (1060, 15), (1061, 16), (1062, 17), (1063, 18), (1064, 19), (1003, 0), (1004, 1), (1005, 2), (1006, 3), (1007, 4), (1008, 5), (1009, 6), (1010, 7), (1011, 9), (1012, 10), (1013, 11), (1014, 8), (1015, 12), (1016, 13), (1017, 14), (1018, 15), (1019, 16), (1020, 17), (1021, 18), (1022, 19)] → ∀ d, fTx_member (d + 7) (nI v) w (lS b pb qb q' s) = rI (zI (kMb T v (kWs k))) (lS b pb qb q' s) := fun q' k w hw d => Lt_mb d (lS_T (b := b) (pb := pb) (qb := qb) (q := q') hT) hG (sWd_ok _ hw) hv h0
  have hm17 : fTx_member (d + 9) (nI v) 1020 (lS b pb qb q s) = rI (zI (kMb T v (kWs 17))) (lS b pb qb q s) := hmem q 17 1020 (by decide) (d + 2)
  unfold kEn
  have hmle := kMb_le (W := kWs 17) hv h0
  have hok17 := fun h => kMb_ok (W := kWs 17) hv h0 h
  have hm3 := kGm_3 hv h0 (W1 := kWs 15) (W2 := kWs 17) (W3 := kWs 12) (by decide) (by decide) (by decide)
  have hmle18 := kMb_le (W := kWs 18) hv h0
  have hm18 : ∀ q', fTx_member (d + 8) (nI v) 1021 (lS b pb qb q' s) = rI (zI (kMb T v (kWs 18))) (lS b pb qb q' s) := fun q' => hmem q' 18 1021 (by decide) (d + 1)
  have hv18 : kMb T v (kWs 18) ≠ 0 → jVb T N m (kMb T v (kWs 18) - 1) := fun h => (kMb_ok hv h0 h).1
  have l17 : (kWs 17).length = 7 := rfl
  generalize kMb T v (kWs 17) = L at *
  generalize kMb T v (kWs 18) = dv at *
  by_cases hz : L = 0
  · rw [if_pos hz]
    refine ⟨_, ?_, lGb_S (q := q)⟩
    refine eSr_symbols (d + 9) _ _ _ _ ?_
    rw [hm17, cG_I, hz, if_neg (by decide), Sr_fail _ hT hG (by omega), cG_I]
    rfl
  · rw [if_neg hz]
    have m2 := hok17 hz
    have hlt2 := jVb_lt m2.1
    have hw2 := kWv_eq (T := T) hlt2.1
    have hkk := jVb_k m2.1
    obtain ⟨L, rfl⟩ : ∃ L', L = L' + 1 := ⟨L - 1, by omega⟩
    rw [Nat.add_sub_cancel] at *
    have fL := hTq.1 L (by omega)
    have f33 : fSr_symbols_33 (d + 10) (nI L) (lS b pb qb q s) = rI (-1) (lS b pb qb q (lF s 11 (nI (T 1 L)))) := by
      refine eSr_symbols_33 (d + 9) _ _ _ ?_
      rw [Sr_fail _ hT hG (by omega), cG_I]
      rfl
    have go : ∀ r, (if T 0 L = 1 ∧ 0 < T 2 L ∧ T 2 L < 33 then cG (fSc_addParts (d + 9) (nI (lo b t)) (nI (T 2 L)) (lS b pb qb q s)) (kI fun v6 s5 => if ¬ v6 = 0 then ldI 4096 s5 16 (nI L) (fun v7 => fSr_symbols_57 (d + 10) (nI v) (nI (lo b t)) (nI (T 2 L)) v7 0 s5) else cG (fSr_fail (d + 9) 13 (nI v) s5) (kI fun v9 s8 => rI v9 s8)) else rI (-1) (lS b pb qb q (lF s 11 (nI (T 1 L))))) = some r → fSr_symbols (d + 10) (nI v) (nI (lo b t)) (lS b pb qb q s) = some r := by
      intro r hr
      refine eSr_symbols (d + 9) _ _ _ _ ?_
      rw [hm17, cG_I, zI_S, if_pos (nI_ne (by omega)), ldI_n (by omega) (by omega), ldI_n (by omega) (by omega), fL.1]
      simp (disch := omega) only [nI_lit 1, nI_eqE]
      by_cases h1 : T 0 L = 1
      · have h2le := jVb_2le hG m2.1 h1
        rw [if_neg (fun e => e h1), lT_Z hTq (by omega) (by omega)]
        simp (disch := omega) only [nI_lit 32, nI_ltE, nI_leE]
        by_cases hz0 : T 2 L < 1
        · rw [if_neg (by omega)] at hr
          rw [if_pos hz0, f33]
          exact hr
        · rw [if_neg hz0]
          by_cases h33 : T 2 L ≤ 32
          · rw [if_pos ⟨h1, by omega, by omega⟩] at hr
            rw [if_pos h33]
            exact hr
          · rw [if_neg (by omega)] at hr
            rw [if_neg h33, f33]
            exact hr
      · rw [if_neg (fun e => h1 e.1)] at hr
        rw [if_pos h1, f33]
        exact hr
    by_cases hL : T 0 L = 1 ∧ 0 < T 2 L ∧ T 2 L < 33
    · rw [if_pos hL]
      rw [if_pos hL] at go
      have hwl : 2 ≤ jWt T L := jWt_2 _ (by omega)
      have hch := jVb_l m2.1 hL.1
      have hcw := jTl_w hch
      have hap := kLo_ap (n := T 2 L) hl (by omega) h4 (by omega)
      have a : ∀ j, (kAp t (T 2 L) q).1 j = if j = 3 then q.1 3 + T 2 L else q.1 j := fun j => rfl
      have hadd : fSc_addParts (d + 9) (nI (lo b t)) (nI (T 2 L)) (lS b pb qb q s) = rI 1 (lS b pb qb (kAp t (T 2 L) q) s) := Sc_addParts (d + 9) hC ht.2.1 ht.2.2 (by omega) (by omega)
      have hs57 := Sr_s57 (s := s) d hC hT hG (x1 := nI v) (q0 := q0) (t := t) (e := jE T L) hlt2.2 _ _ _ _ hch hap.1 (by rw [hap.2.1 0 (by omega)]; omega) (by rw [hap.2.1 4 (by omega), hap.2.2, h4]; omega) (by rw [a, if_pos rfl]; omega) (by rw [a, a, if_neg (by omega), if_neg (by omega)]; omega)
      rw [hap.2.1 4 (by omega), hap.2.2, h4] at hs57
      have go2 : ∀ r, fSr_symbols_57 (d + 10) (nI v) (nI (lo b t)) (nI (T 2 L)) (zI (T 3 L)) (nI 0) (lS b pb qb (kAp t (T 2 L) q) s) = some r → fSr_symbols (d + 10) (nI v) (nI (lo b t)) (lS b pb qb q s) = some r := by
        intro r hr
        refine go _ ?_
        rw [hadd, cG_I, if_pos (by decide), ldI_n (by omega) (by omega), lT_I (lS_T (b := b) (pb := pb) (qb := qb) (q := kAp t (T 2 L) q) hT) (by omega) (by omega)]
        exact hr
      cases hyl : kYl T t (T 2 L) (T 3 L) (kAp t (T 2 L) q) with
      | error er =>
        obtain ⟨k0, e0⟩ := er
        rw [hyl] at hs57
        obtain ⟨tt, h, hg⟩ := hs57
        exact ⟨tt, go2 _ h, hg⟩
      | ok q2 =>
        rw [hyl] at hs57
        have hyo := kYl_ok _ _ _ _ _ hch hap.1 (by rw [hap.2.1 0 (by omega)]; omega) (by rw [hap.2.1 4 (by omega), hap.2.2, h4]; omega) hyl
        obtain ⟨i1, i2, i3, i4, i5, i6, i7⟩ := hyo
        rw [hap.2.1 4 (by omega), h4] at i6
        rw [hap.2.1 0 (by omega), h10] at i7
        have hyr := kYl_r _ _ _ _ hyl
        rw [hap.2.2] at hyr
        have ht2 := i1.2.2.1
        have hn2 := i1.1.1
        have j3 := i2 3 (by omega)
        have j7 := i2 7 (by omega)
        rw [a, if_pos rfl] at j3
        rw [a, if_neg (by omega)] at j7 i4
        have hTq2 := lS_T (b := b) (pb := pb) (qb := qb) (q := q2) hT
        have go51 : ∀ x t9, (if dv = 0 then rI (nI (lo b t)) (lS b pb qb q2 s) else cG (fSc_partTold (d + 8) (nI (lo b t)) (nI (q2.2.1 4 t)) (nI (dv - 1)) (lS b pb qb q2 s)) (kI fun v5 s4 => if ¬ v5 = (-1) then stI 5254 s4 27 (nI (lo b t)) v5 (fun s6 => rI (nI (lo b t)) s6) else cG (fSr_fail (d + 8) 12 (nI (dv - 1)) s4) (kI fun v8 s7 => rI v8 s7))) = rI x t9 → fSr_symbols (d + 10) (nI v) (nI (lo b t)) (lS b pb qb q s) = rI x t9 := by
          intro x t9 hr
          refine go2 _ (hs57 _ ?_)
          have hds : fSr_defaultSymbol (d + 9) (nI v) (nI (lo b t)) (lS b pb qb q2 s) = rI x t9 := by
            refine eSr_defaultSymbol (d + 8) _ _ _ _ ?_
            rw [hm18, cG_I]
            by_cases hd : dv = 0
            · rw [if_pos hd] at hr
              rw [hd, if_neg (by decide)]
              exact hr
            · rw [if_neg hd] at hr
              have e74 : q2.2.1 7 t = q2.2.1 4 t := by omega
              rw [zI_pos (by omega), if_pos (nI_ne (by omega)), ldI_n (by omega) (by omega), lS_26 ht2.2.1 ht2.2.2, e74]
              exact hr
          rw [hds, cG_I]
          rfl
        simp only
        by_cases hd : dv = 0
        · rw [if_pos hd]
          rw [if_pos hd] at go51
          exact go51 _ _ rfl
        · rw [if_neg hd]
          have hpt : fSc_partTold (d + 8) (nI (lo b t)) (nI (q2.2.1 4 t)) (nI (dv - 1)) (lS b pb qb q2 s) = rI (zI (if T 0 (dv - 1) = 2 then kPt T q2 t (q2.2.1 4 t) (dv - 1) else 0)) (lS b pb qb q2 s) := Sc_partTold (d + 7) hC hT hG i1.1 (by omega) (by omega) (by omega) (jVb_k (hv18 hd)) ht2.2.1 ht2.2.2 (by omega)
          rw [if_neg hd, hpt, cG_I] at go51
          by_cases hcc : T 0 (dv - 1) = 2 ∧ kPt T q2 t (q2.2.1 4 t) (dv - 1) ≠ 0
          · rw [if_pos hcc]
            have hpb := kFr_1 _ _ hcc.2
            have hpb2 : kPt T q2 t (q2.2.1 4 t) (dv - 1) ≤ 32 := by unfold kPt; omega
            have ez : zI (kPt T q2 t (q2.2.1 4 t) (dv - 1)) = nI (kPt T q2 t (q2.2.1 4 t) (dv - 1) - 1) := zI_pos (by omega)
            rw [if_pos hcc.1, if_pos (by rw [ez]; exact nI_ne (by omega)), stI_n (by omega) (by omega), lS_w27b ht2.2.1 ht2.2.2 (by omega)] at go51
            exact go51 _ _ rfl
          · rw [if_neg hcc]
            have e0 : (if T 0 (dv - 1) = 2 then kPt T q2 t (q2.2.1 4 t) (dv - 1) else 0) = 0 := by
              by_cases h2 : T 0 (dv - 1) = 2
              · rw [if_pos h2]
                by_cases hk : kPt T q2 t (q2.2.1 4 t) (dv - 1) = 0
                · exact hk
                · exact absurd ⟨h2, hk⟩ hcc
              · rw [if_neg h2]
            rw [e0, if_neg (by decide), Sr_fail _ hT hG (by omega), cG_I] at go51
            exact ⟨_, go51 _ _ rfl, lGb_S⟩
    · rw [if_neg hL]
      rw [if_neg hL] at go
      exact ⟨_, go _ rfl, lGb_S⟩
end
