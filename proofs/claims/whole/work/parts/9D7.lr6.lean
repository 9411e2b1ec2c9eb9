/-! the lake's reader: records, names, the schema of a value -/
section
variable {b pb qb : Nat} {q : kP} {s : aT} {T : Nat → Nat → Nat} {N : Nat → Int} {m l n : Nat} {rec : kR} {E dep : Nat}
theorem lRm_cg {F G : aRs} {x : kE} (h : lRm b pb qb s F x) (go : ∀ r, cG F (kI fun v s => rI v s) = some r → G = some r) : lRm b pb qb s G x := by
  refine lRm_go h (fun r hr => ?_)
  cases x with
  | error er =>
    obtain ⟨k0, e0⟩ := er
    obtain ⟨tt, h, _⟩ := h
    rw [h] at hr
    refine go _ ?_
    rw [h, cG_I]
    exact hr
  | ok qx =>
    obtain ⟨q2, x⟩ := qx
    have h : F = rI (nI (lo b x)) (lS b pb qb q2 s) := h
    rw [h] at hr
    refine go _ ?_
    rw [h, cG_I]
    exact hr
theorem Sr_fields (cy : lCy b pb qb s T N m l n rec E dep) (d : Nat) {dep0 : Nat} (hd : dep0 + 1 = dep) {q0 : kP} {t v : Nat} (hl : kLo T m q0 t q) (h11 : q.2.1 0 t = 11) (h4 : q.2.1 4 t = 0) (hv : jVb T N m v) (h0 : T 0 v = 0) (hbud : 2 * (pb + q.1 3) + kWv T v ≤ 20226) (hpool : qb + q.1 6 + q.1 7 + 2 * kWv T v ≤ 72704 + kGm T v (kWs 15)) (h40 : q.1 4 ≤ q.1 0) (h54 : q.1 5 ≤ q.1 4) : lRm b pb qb s (fSr_fields (E + d + 10) (nI v) (nI (lo b t)) (nI dep0) (lS b pb qb q s)) (kRc T rec v t q) := by
  have hcy := cy
  obtain ⟨hC, hT, hG, hre, hrec⟩ := cy
  have hm := hG.1
  have hlt := jVb_lt hv
  have hTq := lS_T (b := b) (pb := pb) (qb := qb) (q := q) hT
  have hn := hl.1.1
  have ht := hl.2.2.1
  have hltt := lo_lt hC (t := t) (by omega)
  have hm19 : fTx_member (E + d + 9) (nI v) 1022 (lS b pb qb q s) = rI (zI (kMb T v (kWs 19))) (lS b pb qb q s) := Lt_mb (E + d + 2) hTq hG (sWd_ok (1022, 19) (by decide)) hv h0
  unfold kRc
  have hmle := kMb_le (W := kWs 19) hv h0
  have hok19 := fun h => kMb_ok (W := kWs 19) hv h0 h
  have hm3 := kGm_3 hv h0 (W1 := kWs 15) (W2 := kWs 19) (W3 := kWs 12) (by decide) (by decide) (by decide)
  have l19 : (kWs 19).length = 6 := rfl
  generalize kMb T v (kWs 19) = L at *
  by_cases hz : L = 0
  · rw [if_pos hz]
    refine ⟨_, ?_, lGb_S (q := q)⟩
    refine eSr_fields (E + d + 9) _ _ _ _ _ ?_
    rw [hm19, cG_I, hz, if_neg (by decide), Sr_fail _ hT hG (by omega), cG_I]
    rfl
  · rw [if_neg hz]
    have m2 := hok19 hz
    have hlt2 := jVb_lt m2.1
    have hw2 := kWv_eq (T := T) hlt2.1
    have hkk := jVb_k m2.1
    obtain ⟨L, rfl⟩ : ∃ L', L = L' + 1 := ⟨L - 1, by omega⟩
    rw [Nat.add_sub_cancel] at *
    have fL := hTq.1 L (by omega)
    have f30 : fSr_fields_30 (E + d + 10) (nI L) (lS b pb qb q s) = rI (-1) (lS b pb qb q (lF s 11 (nI (T 1 L)))) := by
      refine eSr_fields_30 (E + d + 9) _ _ _ ?_
      rw [Sr_fail _ hT hG (by omega), cG_I]
      rfl
    have go : ∀ r, (if T 0 L = 1 ∧ T 2 L < 33 then cG (fSc_addParts (E + d + 9) (nI (lo b t)) (nI (T 2 L)) (lS b pb qb q s)) (kI fun v6 s5 => if ¬ v6 = 0 then ldI 4096 s5 16 (nI L) (fun v7 => fSr_fields_54 (E + d + 10) (nI (lo b t)) (nI dep0) (nI (T 2 L)) v7 0 s5) else cG (fSr_fail (E + d + 9) 13 (nI v) s5) (kI fun v9 s8 => rI v9 s8)) else rI (-1) (lS b pb qb q (lF s 11 (nI (T 1 L))))) = some r → fSr_fields (E + d + 10) (nI v) (nI (lo b t)) (nI dep0) (lS b pb qb q s) = some r := by
      intro r hr
      refine eSr_fields (E + d + 9) _ _ _ _ _ ?_
      rw [hm19, cG_I, zI_S, if_pos (nI_ne (by omega)), ldI_n (by omega) (by omega), ldI_n (by omega) (by omega), fL.1]
      simp (disch := omega) only [nI_lit 1, nI_eqE]
      by_cases h1 : T 0 L = 1
      · have h2le := jVb_2le hG m2.1 h1
        rw [if_neg (fun e => e h1), lT_Z hTq (by omega) (by omega)]
        simp (disch := omega) only [nI_lit 32, nI_leE]
        by_cases h33 : T 2 L ≤ 32
        · rw [if_pos ⟨h1, by omega⟩] at hr
          rw [if_pos h33]
          exact hr
        · rw [if_neg (by omega)] at hr
          rw [if_neg h33, f30]
          exact hr
      · rw [if_neg (fun e => h1 e.1)] at hr
        rw [if_pos h1, f30]
        exact hr
    by_cases hL : T 0 L = 1 ∧ T 2 L < 33
    · rw [if_pos hL]
      rw [if_pos hL] at go
      have hwl : 2 ≤ jWt T L := jWt_2 _ (by omega)
      have hch := jVb_l m2.1 hL.1
      have hcw := jTl_w hch
      have hap := kLo_ap (n := T 2 L) hl (by omega) h4 (by omega)
      have a : ∀ j, (kAp t (T 2 L) q).1 j = if j = 3 then q.1 3 + T 2 L else q.1 j := fun j => rfl
      have a0 := a 0
      have a3 := a 3
      have a4 := a 4
      have a5 := a 5
      have a6 := a 6
      have a7 := a 7
      simp at a0 a3 a4 a5 a6 a7
      have hadd : fSc_addParts (E + d + 9) (nI (lo b t)) (nI (T 2 L)) (lS b pb qb q s) = rI 1 (lS b pb qb (kAp t (T 2 L) q) s) := Sc_addParts (E + d + 9) hC ht.2.1 ht.2.2 (by omega) (by omega)
      have hs54 := Sr_f54 hcy d hd (q0 := q0) (t := t) (e := jE T L) hlt2.2 _ _ _ _ hch hap.1 (by rw [hap.2.1 0 (by omega)]; exact h11) (by rw [hap.2.1 4 (by omega), hap.2.2, h4]; omega) (by omega) (by omega) (by omega) (by omega)
      rw [hap.2.1 4 (by omega), hap.2.2, h4] at hs54
      have go2 : ∀ r, fSr_fields_54 (E + d + 10) (nI (lo b t)) (nI dep0) (nI (T 2 L)) (zI (T 3 L)) (nI 0) (lS b pb qb (kAp t (T 2 L) q) s) = some r → fSr_fields (E + d + 10) (nI v) (nI (lo b t)) (nI dep0) (lS b pb qb q s) = some r := by
        intro r hr
        refine go _ ?_
        rw [hadd, cG_I, if_pos (by decide), ldI_n (by omega) (by omega), lT_I (lS_T (b := b) (pb := pb) (qb := qb) (q := kAp t (T 2 L) q) hT) (by omega) (by omega)]
        exact hr
      cases hfl : kFl T rec t (T 2 L) (T 3 L) (kAp t (T 2 L) q) with
      | error er =>
        obtain ⟨k0, e0⟩ := er
        rw [hfl] at hs54
        obtain ⟨tt, h, hg⟩ := hs54
        exact ⟨tt, go2 _ h, hg⟩
      | ok q2 =>
        rw [hfl] at hs54
        exact go2 _ hs54
    · rw [if_neg hL]
      rw [if_neg hL] at go
      exact ⟨_, go _ rfl, lGb_S⟩
theorem Sr_named (cy : lCy b pb qb s T N m l n rec E dep) (d : Nat) {dep0 : Nat} (hd : dep0 + 1 = dep) {v kk : Nat} (hp : kPrl pb qb T N m q v) (hn1 : q.1 1 + 1 ≤ 6 + q.1 0) (h0 : T 0 v = 0) (hk : kk = 9 ∨ kk = 10 ∨ kk = 11) : lRm b pb qb s (fSr_named (E + d + 11) (nI v) (nI kk) (nI dep0) (lS b pb qb q s)) (kNa T N rec v kk q) := by
  have hcy := cy
  obtain ⟨hC, hT, hG, hre, hrec⟩ := cy
  obtain ⟨hI, hv, hbud, hpool, h40, h54⟩ := hp
  have hm := hG.1
  have hlt := jVb_lt hv
  have hTq := lS_T (b := b) (pb := pb) (qb := qb) (q := q) hT
  have hn := hI.1
  have hltq := lo_lt hC (t := q.1 1) (by omega)
  have hm15 : fTx_member (E + d + 10) (nI v) 1018 (lS b pb qb q s) = rI (zI (kMb T v (kWs 15))) (lS b pb qb q s) := Lt_mb (E + d + 3) hTq hG (sWd_ok (1018, 15) (by decide)) hv h0
  unfold kNa
  have hmle := kMb_le (W := kWs 15) hv h0
  have hok15 := fun h => kMb_ok (W := kWs 15) hv h0 h
  have hm3 := kGm_3 hv h0 (W1 := kWs 15) (W2 := kWs 19) (W3 := kWs 12) (by decide) (by decide) (by decide)
  have l15 : (kWs 15).length = 4 := rfl
  generalize kMb T v (kWs 15) = nm at *
  have f16 : fSr_named_16 (E + d + 11) (nI v) (lS b pb qb q s) = rI (-1) (lS b pb qb q (lF s 8 (nI (T 1 v)))) := by
    refine eSr_named_16 (E + d + 10) _ _ _ ?_
    rw [Sr_fail _ hT hG (by omega), cG_I]
    rfl
  by_cases hnm : nm ≠ 0 ∧ T 0 (nm - 1) = 2
  case neg =>
    rw [if_neg hnm]
    refine ⟨_, ?_, lGb_S (q := q)⟩
    refine eSr_named (E + d + 10) _ _ _ _ _ ?_
    rw [hm15, cG_I]
    by_cases hz : nm = 0
    · rw [if_pos (by rw [hz]; decide)]
      exact f16
    · have hkn := jVb_k (hok15 hz).1
      have hl15 := jVb_lt (hok15 hz).1
      rw [zI_pos (by omega), if_neg (nI_ne (by omega)), ldI_n (by omega) (by omega), (hTq.1 (nm - 1) (by omega)).1]
      simp (disch := omega) only [nI_lit 2, nI_eqE]
      rw [if_neg (fun e => hnm ⟨hz, e⟩)]
      exact f16
  rw [if_pos hnm]
  have hv15 := hok15 hnm.1
  have hlt15 := jVb_lt hv15.1
  have hw15 := kWv_eq (T := T) hlt15.1
  have hkn := jVb_k hv15.1
  have hnI : fSr_isName (E + d + 10) (nI (nm - 1)) (lS b pb qb q s) = rI (if kNam T (nm - 1) then 1 else 0) (lS b pb qb q s) := Sr_isName (E + d + 9) hTq hG (v := nm - 1) (by omega) hkn
  have hkt : fSr_kindTold (E + d + 10) (nI (nm - 1)) (lS b pb qb q s) = rI (zI (kKt T (nm - 1))) (lS b pb qb q s) := Sr_kindTold (E + d + 3) hTq hG (v := nm - 1) (by omega) hkn
  have hdf : fSc_defined (E + d + 10) (nI (nm - 1)) (lS b pb qb q s) = rI (zL b (kDf T q (nm - 1))) (lS b pb qb q s) := Sc_defined (E + d + 9) hC hT hG hI (by omega) (v := nm - 1) (by omega) hnm.2
  have f38 : fSr_named_38 (E + d + 11) (nI (nm - 1)) (lS b pb qb q s) = rI (-1) (lS b pb qb q (lF s 9 (nI (T 1 (nm - 1))))) := by
    refine eSr_named_38 (E + d + 10) _ _ _ ?_
    rw [Sr_fail _ hT hG (by omega), cG_I]
    rfl
  have hdfl := kDf_le (v := nm - 1) hI
  have hktl : kKt T (nm - 1) ≤ 12 := by
    by_cases h : kKt T (nm - 1) = 0
    · omega
    · have := kKt_1 h; omega
  have go : ∀ r, (if kNam T (nm - 1) = true ∧ kKt T (nm - 1) = 0 ∧ kDf T q (nm - 1) = 0 then cG (fSr_add (E + d + 10) (nI kk) (nI v) 0 (lS b pb qb q s)) (kI fun v11 s10 => if ¬ v11 = (-1) then cG (fSc_addName (E + d + 10) (nI (nm - 1)) s10) (kI fun v13 s12 => stI 5254 s12 24 v11 v13 (fun s14 => if kk = 9 then cG (fSr_fixed (E + d + 10) (nI v) v11 s14) (kI fun v17 s16 => rI v17 s16) else if kk = 10 then cG (fSr_symbols (E + d + 10) (nI v) v11 s14) (kI fun v20 s19 => rI v20 s19) else cG (fSr_fields (E + d + 10) (nI v) v11 (nI dep0) s14) (kI fun v22 s21 => rI v22 s21))) else rI (-1) s10) else rI (-1) (lS b pb qb q (lF s 9 (nI (T 1 (nm - 1)))))) = some r → fSr_named (E + d + 11) (nI v) (nI kk) (nI dep0) (lS b pb qb q s) = some r := by
    intro r hr
    refine eSr_named (E + d + 10) _ _ _ _ _ ?_
    rw [hm15, cG_I, zI_pos (by omega), if_neg (nI_ne (by omega)), ldI_n (by omega) (by omega), (hTq.1 (nm - 1) (by omega)).1]
    simp (disch := omega) only [nI_lit 2, nI_lit 9, nI_lit 10, nI_eqE]
    rw [if_pos hnm.2, hnI, cG_I]
    by_cases hna : kNam T (nm - 1) = true
    · rw [if_neg (by rw [hna]; decide), hkt, cG_I]
      by_cases hz : kKt T (nm - 1) = 0
      · rw [hz, if_neg (by decide), hdf, cG_I]
        by_cases hz2 : kDf T q (nm - 1) = 0
        · rw [if_pos ⟨hna, hz, hz2⟩] at hr
          rw [hz2, if_pos (by rw [zL_0])]
          exact hr
        · rw [if_neg (fun e => hz2 e.2.2)] at hr
          have hlt9 := lo_lt hC (t := kDf T q (nm - 1) - 1) (by omega)
          have ez : zL b (kDf T q (nm - 1)) = nI (lo b (kDf T q (nm - 1) - 1)) := by unfold zL; rw [if_neg hz2]
          rw [ez, if_neg (nI_ne (by omega)), f38]
          exact hr
      · rw [if_neg (fun e => hz e.2.1)] at hr
        rw [zI_pos (by omega), if_pos (nI_ne (by omega)), f38]
        exact hr
    · rw [if_neg (fun e => hna e.1)] at hr
      rw [if_pos (by rw [if_neg hna]), f38]
      exact hr
  by_cases hna : kNam T (nm - 1) = true ∧ kKt T (nm - 1) = 0 ∧ kDf T q (nm - 1) = 0
  case neg =>
    rw [if_neg hna]
    rw [if_neg hna] at go
    exact ⟨_, go _ rfl, lGb_S⟩
  rw [if_pos hna]
  rw [if_pos hna] at go
  have hnw := kNam_w hna.1
  have hl0 := kLo_nn (k := kk) (x := nm - 1) hI hn1 (by omega) (by omega) hna.1
  have r0 := kNn_r (T := T) (k := kk) (x := nm - 1) (q := q) (r := 0) (by omega)
  have r4 := kNn_r (T := T) (k := kk) (x := nm - 1) (q := q) (r := 4) (by omega)
  rw [if_pos rfl] at r0
  rw [if_neg (by omega), if_neg (by omega)] at r4
  have hadd : fSr_add (E + d + 10) (nI kk) (nI v) 0 (lS b pb qb q s) = rI (nI (lo b (q.1 1))) (lS b pb qb (kSh kk q) s) := by
    have := Sr_add (b := b) (pb := pb) (qb := qb) (s := s) (q := q) (E + d + 9) hC (k := kk) (k0 := 0) (x := nI v) (by omega) (by omega) (by omega)
    rw [lS_ap0] at this
    exact this
  have s6 : (kSh kk q).1 6 = q.1 6 := rfl
  have s1 : (kSh kk q).1 1 = q.1 1 + 1 := rfl
  have hnmA : fSc_addName (E + d + 10) (nI (nm - 1)) (lS b pb qb (kSh kk q) s) = rI (nI (qb + (kSh kk q).1 6)) (lS b pb qb (kPn T (nm - 1) (kSh kk q)) s) := Sc_addName (E + d + 3) hT hG (by omega) hnw.1 (by omega) (by rw [s6]; omega)
  have hnn := lS_nn (b := b) (pb := pb) (qb := qb) (s := s) (T := T) (q := kSh kk q) (t := q.1 1) (x := nm - 1) (by omega) (by rw [s1]; omega)
  rw [hadd, cG_I, if_pos (nI_ne (by omega)), hnmA, cG_I, stI_n (by omega) (by omega), hnn] at go
  have cN : ∀ j, (kNn T (q.1 1) (nm - 1) (kSh kk q)).1 j = if j = 6 then q.1 6 + 1 + T 2 (nm - 1) else if j = 1 then q.1 1 + 1 else q.1 j := fun j => rfl
  have c0 := cN 0
  have c1 := cN 1
  have c3 := cN 3
  have c4 := cN 4
  have c5 := cN 5
  have c6 := cN 6
  have c7 := cN 7
  simp at c0 c1 c3 c4 c5 c6 c7
  generalize kNn T (q.1 1) (nm - 1) (kSh kk q) = qn at *
  by_cases h9 : kk = 9
  · rw [if_pos h9]
    rw [if_pos h9] at go
    have hfx := Sr_fixed (b := b) (pb := pb) (qb := qb) (s := s) (q := qn) (E + d + 1) hC hT hG (t := q.1 1) (v := v) (by omega) (by omega) (by omega) (by rw [r0]; exact h9) hv h0
    exact lRm_cg hfx go
  · rw [if_neg h9]
    rw [if_neg h9] at go
    by_cases h10 : kk = 10
    · rw [if_pos h10]
      rw [if_pos h10] at go
      have hsy := Sr_symbols (b := b) (pb := pb) (qb := qb) (s := s) (q := qn) (E + d) hC hT hG hl0 (v := v) (by rw [r0]; exact h10) r4 hv h0 (by omega) (by omega)
      exact lRm_cg hsy go
    · rw [if_neg h10]
      rw [if_neg h10] at go
      have hfi := Sr_fields hcy d hd hl0 (v := v) (by rw [r0]; omega) r4 hv h0 (by omega) (by omega) (by omega) (by omega)
      exact lRm_cg hfi go
theorem Sr_object (cy : lCy b pb qb s T N m l n rec E dep) (d : Nat) {dep0 : Nat} (hd : dep0 + 1 = dep) {v : Nat} (hp : kPrl pb qb T N m q v) (hn1 : q.1 1 + 1 ≤ 6 + q.1 0) (h0 : T 0 v = 0) : lRm b pb qb s (fSr_object (E + d + 12) (nI v) (nI dep0) (lS b pb qb q s)) (kOb T N rec v q) := by
  have hcy := cy
  have hpp := hp
  obtain ⟨hC, hT, hG, hre, hrec⟩ := cy
  obtain ⟨hI, hv, hbud, hpool, h40, h54⟩ := hp
  have hm := hG.1
  have hlt := jVb_lt hv
  have hTq := lS_T (b := b) (pb := pb) (qb := qb) (q := q) hT
  have hm12 : fTx_member (E + d + 11) (nI v) 1015 (lS b pb qb q s) = rI (zI (kMb T v (kWs 12))) (lS b pb qb q s) := Lt_mb (E + d + 4) hTq hG (sWd_ok (1015, 12) (by decide)) hv h0
  unfold kOb
  have hmle := kMb_le (W := kWs 12) hv h0
  have hok12 := fun h => kMb_ok (W := kWs 12) hv h0 h
  generalize kMb T v (kWs 12) = ty at *
  have f16 : fSr_object_16 (E + d + 12) (nI v) (lS b pb qb q s) = rI (-1) (lS b pb qb q (lF s 7 (nI (T 1 v)))) := by
    refine eSr_object_16 (E + d + 11) _ _ _ ?_
    rw [Sr_fail _ hT hG (by omega), cG_I]
    rfl
  by_cases hnm : ty ≠ 0 ∧ T 0 (ty - 1) = 2
  case neg =>
    rw [if_neg hnm]
    refine ⟨_, ?_, lGb_S (q := q)⟩
    refine eSr_object (E + d + 11) _ _ _ _ ?_
    rw [hm12, cG_I]
    by_cases hz : ty = 0
    · rw [if_pos (by rw [hz]; decide)]
      exact f16
    · have hkn := jVb_k (hok12 hz).1
      have hl12 := jVb_lt (hok12 hz).1
      rw [zI_pos (by omega), if_neg (nI_ne (by omega)), ldI_n (by omega) (by omega), (hTq.1 (ty - 1) (by omega)).1]
      simp (disch := omega) only [nI_lit 2, nI_eqE]
      rw [if_neg (fun e => hnm ⟨hz, e⟩)]
      exact f16
  rw [if_pos hnm]
  have hv12 := hok12 hnm.1
  have hlt12 := jVb_lt hv12.1
  have hkn := jVb_k hv12.1
  have hkt : fSr_kindTold (E + d + 11) (nI (ty - 1)) (lS b pb qb q s) = rI (zI (kKt T (ty - 1))) (lS b pb qb q s) := Sr_kindTold (E + d + 4) hTq hG (v := ty - 1) (by omega) hkn
  have hkn2 : lRm b pb qb s (fSr_known (E + d + 11) (nI (ty - 1)) (lS b pb qb q s)) (kKn T (ty - 1) q) := Sr_known (E + d + 4) hC hT hG hI (by omega) (v := ty - 1) (by omega) hnm.2
  have hkb : kKt T (ty - 1) = 0 ∨ 1 ≤ kKt T (ty - 1) ∧ kKt T (ty - 1) ≤ 12 ∧ kKt T (ty - 1) ≠ 9 := by
    by_cases h : kKt T (ty - 1) = 0
    · exact .inl h
    · have := kKt_1 h; exact .inr (by omega)
  generalize hK : kKt T (ty - 1) = K at *
  have go : ∀ r, cG (if K = 7 then fSr_collection (E + d + 11) (nI v) (nI 6) 1016 (nI dep0) (lS b pb qb q s) else if K = 8 then fSr_collection (E + d + 11) (nI v) (nI 7) 1017 (nI dep0) (lS b pb qb q s) else if 9 < K then fSr_named (E + d + 11) (nI v) (nI (K - 1)) (nI dep0) (lS b pb qb q s) else fSr_known (E + d + 11) (nI (ty - 1)) (lS b pb qb q s)) (kI fun v s => rI v s) = some r → fSr_object (E + d + 12) (nI v) (nI dep0) (lS b pb qb q s) = some r := by
    intro r hr
    refine eSr_object (E + d + 11) _ _ _ _ ?_
    rw [hm12, cG_I, zI_pos (by omega), if_neg (nI_ne (by omega)), ldI_n (by omega) (by omega), (hTq.1 (ty - 1) (by omega)).1]
    have e2 : (nI (T 0 (ty - 1)) = 2) = (T 0 (ty - 1) = 2) := by rw [nI_lit 2, nI_eqE (by omega) (by omega)]
    rw [if_pos (by rw [e2]; exact hnm.2), hkt, cG_I]
    rcases hkb with hz | hz
    · subst hz
      rw [if_neg (by decide), if_neg (by decide), if_neg (by decide)] at hr
      rw [if_neg (by decide), if_neg (by decide), if_neg (by decide), if_neg (by decide), if_neg (by decide), if_neg (by decide)]
      exact hr
    · rw [zI_pos (by omega)]
      have hc : K = 7 ∨ K = 8 ∨ K = 10 ∨ K = 11 ∨ K = 12 ∨ K ≤ 6 := by omega
      rcases hc with e | e | e | e | e | e
      · subst e
        rw [if_pos rfl] at hr
        rw [if_pos (by decide)]
        exact hr
      · subst e
        rw [if_neg (by decide), if_pos rfl] at hr
        rw [if_neg (by decide), if_pos (by decide)]
        exact hr
      · subst e
        rw [if_neg (by decide), if_neg (by decide), if_pos (by decide)] at hr
        rw [if_neg (by decide), if_neg (by decide), if_neg (by decide), if_pos (by decide)]
        exact hr
      · subst e
        rw [if_neg (by decide), if_neg (by decide), if_pos (by decide)] at hr
        rw [if_neg (by decide), if_neg (by decide), if_neg (by decide), if_neg (by decide), if_pos (by decide)]
        exact hr
      · subst e
        rw [if_neg (by decide), if_neg (by decide), if_pos (by decide)] at hr
        rw [if_neg (by decide), if_neg (by decide), if_neg (by decide), if_neg (by decide), if_neg (by decide), if_pos (by decide)]
        exact hr
      · rw [if_neg (by omega), if_neg (by omega), if_neg (by omega)] at hr
        have ne : ∀ j, 6 ≤ j → j < 100 → ¬ nI (K - 1) = nI j := fun j h1 h2 => by rw [nI_eqE (by omega) (by omega)]; omega
        rw [if_neg (show ¬ nI (K - 1) = 6 from ne 6 (by omega) (by omega)), if_neg (show ¬ nI (K - 1) = 7 from ne 7 (by omega) (by omega)), if_neg (show ¬ nI (K - 1) = 8 from ne 8 (by omega) (by omega)), if_neg (show ¬ nI (K - 1) = 9 from ne 9 (by omega) (by omega)), if_neg (show ¬ nI (K - 1) = 10 from ne 10 (by omega) (by omega)), if_neg (show ¬ nI (K - 1) = 11 from ne 11 (by omega) (by omega))]
        exact hr
  by_cases h67 : K = 7 ∨ K = 8
  · rw [if_pos h67]
    rcases h67 with e | e
    · subst e
      rw [if_pos rfl] at go
      have hco : lRm b pb qb s (fSr_collection (E + d + 11) (nI v) (nI 6) 1016 (nI dep0) (lS b pb qb q s)) (kCl T rec v 6 q) := Sr_coll hcy (d + 2) hd hpp hn1 h0 (.inl rfl) (sWd_ok (1016, 13) (by decide))
      exact lRm_cg hco go
    · subst e
      rw [if_neg (by decide), if_pos rfl] at go
      have hco : lRm b pb qb s (fSr_collection (E + d + 11) (nI v) (nI 7) 1017 (nI dep0) (lS b pb qb q s)) (kCl T rec v 7 q) := Sr_coll hcy (d + 2) hd hpp hn1 h0 (.inr rfl) (sWd_ok (1017, 14) (by decide))
      exact lRm_cg hco go
  · rw [if_neg h67]
    rw [if_neg (by omega), if_neg (by omega)] at go
    by_cases h9 : 9 < K
    · rw [if_pos h9]
      rw [if_pos h9] at go
      have hna := Sr_named hcy d hd hpp hn1 h0 (kk := K - 1) (by omega)
      exact lRm_cg hna go
    · rw [if_neg h9]
      rw [if_neg h9] at go
      exact lRm_cg hkn2 go
theorem Sr_so0 (cy : lCy b pb qb s T N m l n rec E dep) (d : Nat) {dep0 : Nat} (hd : dep0 + 1 = dep) (hdl : dep0 < 16) {v : Nat} (br : Bool) (hp : kPrl pb qb T N m q v) : lRm b pb qb s (fSr_schemaOf (E + d + 13) (nI v) (nI dep0) (if br then 1 else 0) (lS b pb qb q s)) (if q.1 0 < 128 then kBd T N rec v br (kC q 0 (q.1 0 + 1)) else .error (13, T 1 v)) := by
  have hcy := cy
  obtain ⟨hC, hT, hG, hre, hrec⟩ := cy
  obtain ⟨hI, hv, hbud, hpool, h40, h54⟩ := hp
  have hm := hG.1
  have hlt := jVb_lt hv
  have hlk := hI.1
  by_cases hlt128 : q.1 0 < 128
  case neg =>
    rw [if_neg hlt128]
    refine ⟨_, ?_, lGb_S (q := q)⟩
    refine eSr_schemaOf (E + d + 12) _ _ _ _ _ ?_
    rw [lS_lk]
    simp (disch := omega) only [nI_lit 128, nI_ltE]
    rw [if_neg hlt128, Sr_fail _ hT hG (by omega), cG_I]
    rfl
  rw [if_pos hlt128]
  obtain ⟨hIc, hn1, hFc⟩ := kIv_c0 hI hlt128
  have e3 : (kC q 0 (q.1 0 + 1)).1 3 = q.1 3 := rfl
  have e4 : (kC q 0 (q.1 0 + 1)).1 4 = q.1 4 := rfl
  have e5 : (kC q 0 (q.1 0 + 1)).1 5 = q.1 5 := rfl
  have e6 : (kC q 0 (q.1 0 + 1)).1 6 = q.1 6 := rfl
  have e7 : (kC q 0 (q.1 0 + 1)).1 7 = q.1 7 := rfl
  have e0 : (kC q 0 (q.1 0 + 1)).1 0 = q.1 0 + 1 := rfl
  have hpc : kPrl pb qb T N m (kC q 0 (q.1 0 + 1)) v := ⟨hIc, hv, by omega, by omega, by omega, by omega⟩
  have hkv := jVb_k hv
  have go : ∀ r, (if T 0 v = 0 then cG (fSr_object (E + d + 12) (nI v) (nI dep0) (lS b pb qb (kC q 0 (q.1 0 + 1)) s)) (kI fun v s => rI v s) else if T 0 v = 1 then (if br = true then rI (-1) (lS b pb qb (kC q 0 (q.1 0 + 1)) (lF s 4 (nI (T 1 v)))) else cG (fSr_union (E + d + 12) (nI v) (nI dep0) (lS b pb qb (kC q 0 (q.1 0 + 1)) s)) (kI fun v s => rI v s)) else if T 0 v = 2 then cG (fSr_known (E + d + 12) (nI v) (lS b pb qb (kC q 0 (q.1 0 + 1)) s)) (kI fun v s => rI v s) else rI (-1) (lS b pb qb (kC q 0 (q.1 0 + 1)) (lF s 2 (nI (T 1 v))))) = some r → fSr_schemaOf (E + d + 13) (nI v) (nI dep0) (if br then 1 else 0) (lS b pb qb q s) = some r := by
    intro r hr
    refine eSr_schemaOf (E + d + 12) _ _ _ _ _ ?_
    rw [lS_lk]
    simp (disch := omega) only [nI_lit 128, nI_lit 16, nI_ltE]
    rw [if_pos hlt128, wI_eq, nI_add1, lS_c0, if_pos hdl, ldI_n (by omega) (by omega), ((lS_T (b := b) (pb := pb) (qb := qb) (q := kC q 0 (q.1 0 + 1)) hT).1 v (by omega)).1]
    have ez : ∀ j, j < 100 → (nI (T 0 v) = nI j) = (T 0 v = j) := fun j hj => nI_eqE (by omega) (by omega)
    have z0 : (nI (T 0 v) = 0) = (T 0 v = 0) := ez 0 (by omega)
    have z1 : (nI (T 0 v) = 1) = (T 0 v = 1) := ez 1 (by omega)
    have z2 : (nI (T 0 v) = 2) = (T 0 v = 2) := ez 2 (by omega)
    simp only [z0, z1, z2]
    by_cases h0 : T 0 v = 0
    · rw [if_pos h0] at hr ⊢
      exact hr
    rw [if_neg h0] at hr ⊢
    by_cases h1 : T 0 v = 1
    · rw [if_pos h1] at hr ⊢
      cases br with
      | true =>
        rw [if_pos rfl] at hr
        rw [if_neg (by decide), Sr_fail _ hT hG (by omega), cG_I]
        exact hr
      | false =>
        rw [if_neg (by decide)] at hr
        rw [if_pos (by decide)]
        exact hr
    rw [if_neg h1] at hr ⊢
    by_cases h2 : T 0 v = 2
    · rw [if_pos h2] at hr ⊢
      exact hr
    rw [if_neg h2] at hr ⊢
    rw [Sr_fail _ hT hG (by omega), cG_I]
    exact hr
  generalize kC q 0 (q.1 0 + 1) = qc at *
  unfold kBd
  by_cases h2 : T 0 v = 2
  · rw [if_pos h2]
    rw [if_neg (by omega), if_neg (by omega), if_pos h2] at go
    have hkn : lRm b pb qb s (fSr_known (E + d + 12) (nI v) (lS b pb qb qc s)) (kKn T v qc) := Sr_known (E + d + 5) hC hT hG hIc (by omega) (v := v) (by omega) h2
    exact lRm_cg hkn go
  rw [if_neg h2]
  by_cases h1 : T 0 v = 1
  · rw [if_pos h1]
    rw [if_neg (by omega), if_pos h1] at go
    cases br with
    | true =>
      rw [if_pos rfl] at go ⊢
      exact ⟨_, go _ rfl, lGb_S⟩
    | false =>
      rw [if_neg (show ¬ (false = true) by decide)] at go
      have hun : lRm b pb qb s (fSr_union (E + d + 12) (nI v) (nI dep0) (lS b pb qb qc s)) (kUn T rec v qc) := Sr_union hcy (d + 3) hd hpc hn1 h1
      exact lRm_cg hun go
  rw [if_neg h1]
  by_cases h0 : T 0 v = 0
  · rw [if_pos h0]
    rw [if_pos h0] at go
    exact lRm_cg (Sr_object hcy d hd hpc hn1 h0) go
  · rw [if_neg h0]
    rw [if_neg h0, if_neg h1, if_neg h2] at go
    exact ⟨_, go _ rfl, lGb_S⟩
/-- the schema of a value, in the lake -/
theorem Sr_so (hC : lCx b pb qb s) (hT : lT s T N m l) (hG : jGt T N m l n) : ∀ D, D ≤ 16 → ∀ d v (br : Bool) q, kPrl pb qb T N m q v → lRm b pb qb s (fSr_schemaOf (5 * D + d + 8) (nI v) (nI (16 - D)) (if br then 1 else 0) (lS b pb qb q s)) (kSo T N D v br q) := by
  intro D
  induction D with
  | zero =>
    intro _ d v br q hp
    obtain ⟨hI, hv, hbud, hpool, h40, h54⟩ := hp
    have hm := hG.1
    have hlt := jVb_lt hv
    have hlk := hI.1
    unfold kSo
    by_cases h : q.1 0 < 128
    · rw [if_pos h]
      refine ⟨_, ?_, lGb_S (q := kC q 0 (q.1 0 + 1))⟩
      refine eSr_schemaOf (5 * 0 + d + 7) _ _ _ _ _ ?_
      rw [lS_lk]
      simp (disch := omega) only [nI_lit 128, nI_lit 16, nI_ltE]
      rw [if_pos h, wI_eq, nI_add1, lS_c0, if_neg (by omega), Sr_fail _ hT hG (by omega), cG_I]
      rfl
    · rw [if_neg h]
      refine ⟨_, ?_, lGb_S (q := q)⟩
      refine eSr_schemaOf (5 * 0 + d + 7) _ _ _ _ _ ?_
      rw [lS_lk]
      simp (disch := omega) only [nI_lit 128, nI_ltE]
      rw [if_neg h, Sr_fail _ hT hG (by omega), cG_I]
      rfl
  | succ D ih =>
    intro hD d v br q hp
    have cy : lCy b pb qb s T N m l n (kSo T N D) (5 * D) (16 - D) := ⟨hC, hT, hG, kSo_ok D, fun d v br q hp => ih (by omega) d v br q hp⟩
    have h := Sr_so0 cy d (dep0 := 16 - (D + 1)) (by omega) (by omega) br hp
    have e : 5 * D + d + 13 = 5 * (D + 1) + d + 8 := by omega
    rw [e] at h
    exact h
end
