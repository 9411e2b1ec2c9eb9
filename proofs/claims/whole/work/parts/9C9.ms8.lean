/-! the reference's Text: the schema of a value -/
section
variable {c : Nat} {q : kP} {s : aT} {T : Nat → Nat → Nat} {N : Nat → Int} {m l n : Nat} {rec : kR} {E dep : Nat}
theorem kWd_le (v : Nat) : kWd T v ≤ 6 := by
  by_cases h : kWd T v = 0
  · omega
  · exact (kFr_1 _ _ h).2.1
theorem kDf_le {v : Nat} (hI : kIv T m q) : kDf T q v ≤ q.1 1 := by
  by_cases h : kDf T q v = 0
  · have := hI.1; omega
  · exact (kDf_ok hI h).2.1
theorem zI_ge0 {x : Nat} (h : x < 2147483648) : (0 ≤ zI x) = (x ≠ 0) := by
  apply propext
  rw [← Int32.not_lt, zI_lt0 h]
/-- arrays and maps -/
theorem Mt_coll (cx : mCx c s T N m l n rec E dep) (d : Nat) {dep0 : Nat} (hd : dep0 + 1 = dep) {v ty k : Nat} (hp : kPre T N m q v) (hn1 : q.1 1 + 1 ≤ 6 + q.1 0) (h0 : T 0 v = 0) (hty : ty < m) (hty2 : T 0 ty = 2) (hk : kKt T ty = k + 1) (hk67 : k = 6 ∨ k = 7) : kRm c s (fMt_schemaOf_133 (E + d + 9) c (nI v) (nI dep0) (nI ty) (mS c q s)) (kCl T rec v k q) := by
  obtain ⟨hc, hT, hG, hre, hrec⟩ := cx
  obtain ⟨hI, hv, hbud, h40⟩ := hp
  have hm := hG.1
  have hlt := jVb_lt hv
  have hTq := mS_T (q := q) hT
  have hn : q.1 1 < 140 := by have := hI.1; omega
  have f1v := (hTq.1 v (by omega)).2.1
  have i53 := Mt_isw (w := 1053) (k := 6) (E + d + 2) hc hTq hG (v := ty) hty (by omega) (by decide)
  have m13 := Mt_mb (E + d + 1) hc hTq hG hv h0 (w := 1055) (k := 13) (by decide)
  have m14 := Mt_mb (E + d + 1) hc hTq hG hv h0 (w := 1056) (k := 14) (by decide)
  have hb := (kKt_1 (T := T) (v := ty) (by omega)).2.2
  have go : ∀ r, (if kMb T v (kWs (k + 7)) = 0 then fMt_schemaOf_153 (E + d + 9) c (nI v) (nI dep0) (if k = 6 then 1 else 0) (zI 0) 0 (mS c q s) else fMt_schemaOf_153 (E + d + 9) c (nI v) (nI dep0) (if k = 6 then 1 else 0) (nI (kMb T v (kWs (k + 7)) - 1)) 1 (mS c q s)) = some r → fMt_schemaOf_133 (E + d + 9) c (nI v) (nI dep0) (nI ty) (mS c q s) = some r := by
    intro r hr
    refine eMt_schemaOf_133 (E + d + 8) c _ _ _ _ hc _ ?_
    simp only [i53, cG_I]
    have hml : ∀ W, kMb T v W ≤ m := fun W => kMb_le hv h0
    rcases hk67 with hk6 | hk6
    · subst hk6
      rw [hk] at hb
      have hb : jTw T ty (kWs 6) = true := hb
      rw [if_neg (by rw [hb]; decide), hb, if_pos rfl]
      rw [if_pos rfl] at hr
      refine eMt_schemaOf_145 (E + d + 8) c _ _ _ _ _ _ hc _ ?_
      rw [m13, cG_I]
      have hl13 := hml (kWs 13)
      have hr : (if kMb T v (kWs 13) = 0 then fMt_schemaOf_153 (E + d + 9) c (nI v) (nI dep0) 1 (zI 0) 0 (mS c q s) else fMt_schemaOf_153 (E + d + 9) c (nI v) (nI dep0) 1 (nI (kMb T v (kWs 13) - 1)) 1 (mS c q s)) = some r := hr
      generalize kMb T v (kWs 13) = z at *
      by_cases hz : z = 0
      · rw [if_pos hz] at hr
        rw [hz, if_pos (by decide)]
        exact hr
      · rw [if_neg hz] at hr
        rw [zI_pos (by omega), if_neg (nI_pos (by omega))]
        exact hr
    · subst hk6
      have hb6 := kKt_ne (T := T) (v := ty) (j := 6) (by omega) (by omega) (by omega)
      rw [if_pos (by rw [hb6]; decide), hb6, if_neg (by decide)]
      have e76 : (if (7 : Nat) = 6 then (1 : Int32) else 0) = 0 := rfl
      rw [e76] at hr
      refine eMt_schemaOf_145 (E + d + 8) c _ _ _ _ _ _ hc _ ?_
      rw [m14, cG_I]
      have hl14 := hml (kWs 14)
      have hr : (if kMb T v (kWs 14) = 0 then fMt_schemaOf_153 (E + d + 9) c (nI v) (nI dep0) 0 (zI 0) 0 (mS c q s) else fMt_schemaOf_153 (E + d + 9) c (nI v) (nI dep0) 0 (nI (kMb T v (kWs 14) - 1)) 1 (mS c q s)) = some r := hr
      generalize kMb T v (kWs 14) = z at *
      by_cases hz : z = 0
      · rw [if_pos hz] at hr
        rw [hz, if_pos (by decide)]
        exact hr
      · rw [if_neg hz] at hr
        rw [zI_pos (by omega), if_neg (nI_pos (by omega))]
        exact hr
  unfold kCl
  have hmle := kMb_le (W := kWs (k + 7)) hv h0
  have hok := fun h => kMb_ok (W := kWs (k + 7)) hv h0 h
  have hm3 := kGm_3 hv h0 (W1 := kWs (k + 7)) (W2 := kWs 15) (W3 := kWs 12) (by rcases hk67 with rfl | rfl <;> decide) (by rcases hk67 with rfl | rfl <;> decide) (by decide)
  generalize kMb T v (kWs (k + 7)) = z at *
  by_cases hz : z = 0
  · rw [if_pos hz]
    rw [if_pos hz] at go
    refine ⟨q, go _ ?_⟩
    refine eMt_schemaOf_153 (E + d + 8) c _ _ _ _ _ _ hc _ ?_
    rw [ldI_n (by omega) (by omega), f1v, Mt_nd0 _ hc, cG_T]
    rfl
  · rw [if_neg hz]
    rw [if_neg hz] at go
    have hvz := hok hz
    have har := kLo_ar (k := k) hI hn1 hk67
    have hsh := Mt_shape (s := s) (E + d + 8) hc (k := k) (q := q) (by have := hI.1; omega) hn
    have s4 : (kSh k q).2.1 4 (q.1 1) = 0 := by rw [kSh_Q, if_pos rfl, if_neg (by omega), if_pos (by omega)]
    have s1 : (kSh k q).1 1 = q.1 1 + 1 := rfl
    have s2 : (kSh k q).1 2 = q.1 2 := rfl
    have hak := Mt_addKid (s := s) (q := kSh k q) (E + d + 8) hc (t := q.1 1) hI.1.1 (by rw [s1]; omega) (by rw [s1]; have := hI.1; omega) (by rw [s2]; omega) (by rw [s4]; omega) (fun h => absurd s4 h)
    rw [if_pos s4] at hak
    have a2 : (kAk (q.1 1) (kSh k q)).1 2 = q.1 2 + 1 := rfl
    have a4 : (kAk (q.1 1) (kSh k q)).1 4 = q.1 4 := rfl
    have a0 : (kAk (q.1 1) (kSh k q)).1 0 = q.1 0 := rfl
    have hr := hrec d (z - 1) false (kAk (q.1 1) (kSh k q)) ⟨har.1.1, hvz.1, by rw [a2]; omega, by rw [a4, a0]; exact h40⟩
    rw [if_neg (by decide)] at hr
    have go2 : ∀ r, cG (fMt_schemaOf (E + d + 8) c (nI (z - 1)) (nI dep) 0 (mS c (kAk (q.1 1) (kSh k q)) s)) (kI fun v6 s5 => stI 2200 s5 (c + 15) (nI (q.1 2)) v6 (fun s7 => rI (nI (q.1 1)) s7)) = some r → fMt_schemaOf_133 (E + d + 9) c (nI v) (nI dep0) (nI ty) (mS c q s) = some r := by
      intro r hr
      refine go _ ?_
      refine eMt_schemaOf_153 (E + d + 8) c _ _ _ _ _ _ hc _ ?_
      rw [ldI_n (by omega) (by omega), Mt_need1 _ hc, cG_V]
      have g165 : fMt_schemaOf_165 (E + d + 9) c (nI dep0) (nI (z - 1)) (nI k) (mS c q s) = some r := by
        refine eMt_schemaOf_165 (E + d + 8) c _ _ _ _ hc _ ?_
        rw [hsh, cG_I, m1_z, hak, cG_I, nI_add1, hd]
        exact hr
      rcases hk67 with hk6 | hk6
      · subst hk6
        rw [if_pos rfl, if_neg (by decide)]
        exact g165
      · subst hk6
        rw [if_pos (by decide)]
        exact g165
    cases hrc : rec (z - 1) false (kAk (q.1 1) (kSh k q)) with
    | error er =>
      obtain ⟨k0, e0⟩ := er
      rw [hrc] at hr
      obtain ⟨q', hr⟩ := hr
      refine ⟨q', go2 _ ?_⟩
      rw [hr, cG_T]
      rfl
    | ok qx =>
      obtain ⟨q1, x⟩ := qx
      rw [hrc] at hr
      have hr : fMt_schemaOf (E + d + 8) c (nI (z - 1)) (nI dep) 0 (mS c (kAk (q.1 1) (kSh k q)) s) = rI (nI x) (mS c q1 s) := hr
      have hok := hre.1 _ _ _ _ _ har.1.1 hvz.1 hrc
      obtain ⟨o1, o2, o3, o4, o5, o6, o7, o8, o9⟩ := hok
      obtain ⟨hl1, hr1, hxx⟩ := kLo_fm har.1 o1 o2
      have x1 : q1.2.2 0 (q.1 1) 0 = q.1 2 := by rw [hxx, har.2.2.2]
      have hk2 := o2.1 2 (by omega)
      rw [a2] at hk2 o4
      have hsi := mS_si (c := c) (s := s) (q := q1) (t := q.1 1) (x := x) (by rw [x1]; omega)
      rw [x1] at hsi
      refine go2 _ ?_
      rw [hr, cG_I, stI_n (by omega) (by omega), hsi]
      rfl
theorem Mt_so0 (cx : mCx c s T N m l n rec E dep) (d : Nat) {dep0 : Nat} (hd : dep0 + 1 = dep) (hdl : dep0 < 16) {v : Nat} (br : Bool) (hp : kPre T N m q v) : kRm c s (fMt_schemaOf (E + d + 11) c (nI v) (nI dep0) (if br then 1 else 0) (mS c q s)) (if q.1 0 < 128 then kBd T N rec v br (kC q 0 (q.1 0 + 1)) else .error (13, T 1 v)) := by
  have hcx := cx
  obtain ⟨hc, hT, hG, hre, hrec⟩ := cx
  obtain ⟨hI, hv, hbud, h40⟩ := hp
  have hm := hG.1
  have hlt := jVb_lt hv
  have hTq0 := mS_T (q := q) hT
  have f1v0 := (hTq0.1 v (by omega)).2.1
  have hlk := hI.1
  by_cases hlt128 : q.1 0 < 128
  case neg =>
    rw [if_neg hlt128]
    refine ⟨q, ?_⟩
    refine eMt_schemaOf (E + d + 10) c _ _ _ _ hc _ ?_
    rw [mS_lk]
    simp (disch := omega) only [nI_lit 128, nI_leE]
    rw [if_pos (by omega)]
    refine eMt_schemaOf_8 (E + d + 10) c _ _ _ _ _ hc _ ?_
    rw [ldI_n (by omega) (by omega), f1v0, Mt_nd0 _ hc, cG_T]
    rfl
  rw [if_pos hlt128]
  obtain ⟨hIc, hn1, hFc⟩ := kIv_c0 hI hlt128
  have e2 : (kC q 0 (q.1 0 + 1)).1 2 = q.1 2 := rfl
  have e4 : (kC q 0 (q.1 0 + 1)).1 4 = q.1 4 := rfl
  have e0 : (kC q 0 (q.1 0 + 1)).1 0 = q.1 0 + 1 := rfl
  have hpc : kPre T N m (kC q 0 (q.1 0 + 1)) v := ⟨hIc, hv, by rw [e2]; exact hbud, by rw [e4, e0]; omega⟩
  have go27 : ∀ r, fMt_schemaOf_27 (E + d + 11) c (nI v) (nI dep0) (if br then 1 else 0) 1 (mS c (kC q 0 (q.1 0 + 1)) s) = some r → fMt_schemaOf (E + d + 11) c (nI v) (nI dep0) (if br then 1 else 0) (mS c q s) = some r := by
    intro r hr
    refine eMt_schemaOf (E + d + 10) c _ _ _ _ hc _ ?_
    rw [mS_lk]
    simp (disch := omega) only [nI_lit 128, nI_leE]
    rw [if_neg (by omega)]
    refine eMt_schemaOf_8 (E + d + 10) c _ _ _ _ _ hc _ ?_
    rw [ldI_n (by omega) (by omega), Mt_need1 _ hc, cG_V, wI_eq, mS_lk, nI_add1, mS_c0]
    simp (disch := omega) only [nI_lit 16, nI_leE]
    rw [if_neg (by omega)]
    exact hr
  generalize kC q 0 (q.1 0 + 1) = qc at *
  have hTq := mS_T (q := qc) hT
  have hn : qc.1 1 < 140 := by have := hIc.1; omega
  have fv := hTq.1 v (by omega)
  have hkv := jVb_k hv
  have go : ∀ r, (if T 0 v = 2 then cG (fMt_word (E + d + 10) c (nI v) (mS c qc s)) (kI fun v9 s8 => if v9 < 0 then cG (fMt_defined (E + d + 10) c (nI v) s8) (kI fun v11 s10 => fMt_schemaOf_50 (E + d + 11) c (nI v) v11 s10) else fMt_schemaOf_50 (E + d + 11) c (nI v) v9 s8) else if T 0 v = 1 then cG (fMt_union (E + d + 10) c (nI v) (nI dep0) (if br then 1 else 0) (mS c qc s)) (kI fun v7 s6 => rI v7 s6) else if T 0 v = 0 then fMt_schemaOf_86 (E + d + 11) c (nI v) (nI dep0) 1 (mS c qc s) else fMt_schemaOf_86 (E + d + 11) c (nI v) (nI dep0) 0 (mS c qc s)) = some r → fMt_schemaOf (E + d + 11) c (nI v) (nI dep0) (if br then 1 else 0) (mS c q s) = some r := by
    intro r hr
    refine go27 _ ?_
    refine eMt_schemaOf_27 (E + d + 10) c _ _ _ _ _ hc _ ?_
    rw [ldI_n (by omega) (by omega), Mt_need1 _ hc, cG_V, ldI_n (by omega) (by omega), fv.1, ldI_n (by omega) (by omega), fv.1, ldI_n (by omega) (by omega), fv.1, show (0 : Int32) = nI 0 from rfl]
    simp (disch := omega) only [nI_lit 2, nI_lit 1, nI_eqE]
    by_cases h2 : T 0 v = 2
    · rw [if_pos h2] at hr
      rw [if_neg (fun e => e h2)]
      exact hr
    · rw [if_neg h2] at hr
      rw [if_pos h2]
      by_cases h1 : T 0 v = 1
      · rw [if_pos h1] at hr
        rw [if_neg (fun e => e h1)]
        exact hr
      · rw [if_neg h1] at hr
        rw [if_pos h1]
        by_cases h0 : T 0 v = 0
        · rw [if_pos h0] at hr
          rw [if_neg (fun e => e h0)]
          exact hr
        · rw [if_neg h0] at hr
          rw [if_pos h0]
          exact hr
  unfold kBd
  by_cases h2 : T 0 v = 2
  · rw [if_pos h2]
    rw [if_pos h2] at go
    have hwd := Mt_word6 (E + d + 3) hc hTq hG (v := v) (by omega) hkv
    have hwd' : fMt_word (E + d + 10) c (nI v) (mS c qc s) = rI (zI (kWd T v)) (mS c qc s) := hwd
    have hdf : fMt_defined (E + d + 10) c (nI v) (mS c qc s) = rI (zI (kDf T qc v)) (mS c qc s) := Mt_defined (s := s) (E + d + 9) hc hT hG hIc (v := v) (by omega) h2
    rw [hwd', cG_I] at go
    have hwl := kWd_le (T := T) v
    have hdl := kDf_le (v := v) hIc
    have g50 : ∀ x, x ≠ 0 → x ≤ 140 → fMt_schemaOf_50 (E + d + 11) c (nI v) (zI x) (mS c qc s) = rI (nI (x - 1)) (mS c qc s) := by
      intro x hx hx2
      refine eMt_schemaOf_50 (E + d + 10) c _ _ _ hc _ ?_
      rw [zI_pos (by omega), if_neg (nI_pos (by omega))]
      refine eMt_schemaOf_57 (E + d + 10) c _ _ _ _ hc _ ?_
      rw [ldI_n (by omega) (by omega), Mt_need1 _ hc, cG_V]
      rfl
    unfold kKn
    by_cases hw : kWd T v ≠ 0
    · rw [if_pos hw]
      rw [if_neg (by rw [zI_pos (by omega)]; exact nI_pos (by omega))] at go
      exact go _ (g50 _ hw (by omega))
    · rw [if_neg hw]
      rw [if_pos (by rw [show kWd T v = 0 by omega]; decide), hdf, cG_I] at go
      by_cases hdz : kDf T qc v ≠ 0
      · rw [if_pos hdz]
        exact go _ (g50 _ hdz (by omega))
      · rw [if_neg hdz]
        refine ⟨qc, go _ ?_⟩
        refine eMt_schemaOf_50 (E + d + 10) c _ _ _ hc _ ?_
        rw [show kDf T qc v = 0 by omega, if_pos (by decide)]
        refine eMt_schemaOf_57 (E + d + 10) c _ _ _ _ hc _ ?_
        rw [ldI_n (by omega) (by omega), fv.2.1, Mt_nd0 _ hc, cG_T]
        rfl
  · rw [if_neg h2]
    rw [if_neg h2] at go
    by_cases h1 : T 0 v = 1
    · rw [if_pos h1]
      rw [if_pos h1] at go
      have hun := Mt_union hcx (d + 1) hd hpc hn1 h1 br
      have hun : kRm c s (fMt_union (E + d + 10) c (nI v) (nI dep0) (if br then 1 else 0) (mS c qc s)) (if br then .error (4, T 1 v) else kUn T rec v qc) := hun
      revert hun
      cases (if br then (.error (4, T 1 v) : kE) else kUn T rec v qc) with
      | error er =>
        obtain ⟨k0, e0⟩ := er
        rintro ⟨q', h⟩
        refine ⟨q', go _ ?_⟩
        rw [h, cG_T]
        rfl
      | ok qx =>
        obtain ⟨q2, x⟩ := qx
        intro h
        have h : fMt_union (E + d + 10) c (nI v) (nI dep0) (if br then 1 else 0) (mS c qc s) = rI (nI x) (mS c q2 s) := h
        refine go _ ?_
        rw [h, cG_I]
        rfl
    · rw [if_neg h1]
      rw [if_neg h1] at go
      by_cases h0 : T 0 v = 0
      case neg =>
        rw [if_neg h0]
        rw [if_neg h0] at go
        refine ⟨qc, go _ ?_⟩
        refine eMt_schemaOf_86 (E + d + 10) c _ _ _ _ hc _ ?_
        rw [ldI_n (by omega) (by omega), fv.2.1, Mt_nd0 _ hc, cG_T]
        rfl
      rw [if_pos h0]
      rw [if_pos h0] at go
      have hm12 := Mt_mb (E + d + 3) hc hTq hG hv h0 (w := 1052) (k := 12) (by decide)
      unfold kOb
      have hmle := kMb_le (W := kWs 12) hv h0
      have hok12 := fun h => kMb_ok (W := kWs 12) hv h0 h
      generalize kMb T v (kWs 12) = tt at *
      have go86 : ∀ r, (if tt ≠ 0 ∧ T 0 (tt - 1) = 2 then fMt_schemaOf_109 (E + d + 11) c (nI v) (nI dep0) (nI (tt - 1)) 1 (mS c qc s) else fMt_schemaOf_109 (E + d + 11) c (nI v) (nI dep0) (zI tt) 0 (mS c qc s)) = some r → fMt_schemaOf (E + d + 11) c (nI v) (nI dep0) (if br then 1 else 0) (mS c q s) = some r := by
        intro r hr
        refine go _ ?_
        refine eMt_schemaOf_86 (E + d + 10) c _ _ _ _ hc _ ?_
        rw [ldI_n (by omega) (by omega), Mt_need1 _ hc, cG_V, hm12, cG_I]
        by_cases hz : tt = 0
        · rw [if_neg (fun e => e.1 hz)] at hr
          rw [hz] at hr ⊢
          rw [if_pos (by decide)]
          exact eMt_schemaOf_108 (E + d + 10) c _ _ _ _ hc _ hr
        · have hkn := jVb_k (hok12 hz).1
          have ez : zI tt = nI (tt - 1) := zI_pos (by omega)
          rw [ez] at hr ⊢
          rw [if_neg (nI_pos (by omega)), ldI_n (by omega) (by omega), (hTq.1 (tt - 1) (by omega)).1]
          simp (disch := omega) only [nI_lit 2, nI_eqE]
          by_cases h2 : T 0 (tt - 1) = 2
          · rw [if_pos ⟨hz, h2⟩] at hr
            rw [if_neg (fun e => e h2)]
            exact hr
          · rw [if_neg (fun e => h2 e.2)] at hr
            rw [if_pos h2]
            exact eMt_schemaOf_108 (E + d + 10) c _ _ _ _ hc _ hr
      by_cases ht : tt ≠ 0 ∧ T 0 (tt - 1) = 2
      case neg =>
        rw [if_neg ht]
        rw [if_neg ht] at go86
        refine ⟨qc, go86 _ ?_⟩
        refine eMt_schemaOf_109 (E + d + 10) c _ _ _ _ _ hc _ ?_
        rw [ldI_n (by omega) (by omega), fv.2.1, Mt_nd0 _ hc, cG_T]
        rfl
      rw [if_pos ht]
      rw [if_pos ht] at go86
      have hvt := hok12 ht.1
      have hltt := jVb_lt hvt.1
      obtain ⟨tt, rfl⟩ : ∃ t', tt = t' + 1 := ⟨tt - 1, by omega⟩
      rw [Nat.add_sub_cancel] at *
      have hwd : fMt_word (E + d + 10) c (nI tt) (mS c qc s) = rI (zI (kWd T tt)) (mS c qc s) := Mt_word6 (E + d + 3) hc hTq hG (v := tt) (by omega) (by omega)
      have his : ∀ w k, (w, k) ∈ [(1046, 0), (1047, 1), (1048, 2), (1049, 3), (1050, 4), (1051, 5), (1052, 12), (1053, 6), (1054, 7), (1055, 13), (1056, 14), (1057, 9), (1058, 10), (1059, 11), (1060, 15), (1061, 16), (1062, 17), (1063, 18), (1064, 19), (1003, 0), (1004, 1), (1005, 2), (1006, 3), (1007, 4), (1008, 5), (1009, 6), (1010, 7), (1011, 9), (1012, 10), (1013, 11), (1014, 8), (1015, 12), (1016, 13), (1017, 14), (1018, 15), (1019, 16), (1020, 17), (1021, 18), (1022, 19)] → fMt_is (E + d + 10) c (nI tt) w (mS c qc s) = rI (if jTw T tt (kWs k) then 1 else 0) (mS c qc s) := fun w k hw => Mt_isw (w := w) (k := k) (E + d + 4) hc hTq hG (v := tt) (by omega) (by omega) hw
      have hdf : fMt_defined (E + d + 10) c (nI tt) (mS c qc s) = rI (zI (kDf T qc tt)) (mS c qc s) := Mt_defined (s := s) (E + d + 9) hc hT hG hIc (v := tt) (by omega) ht.2
      have hwl := kWd_le (T := T) tt
      have hdl2 := kDf_le (v := tt) hIc
      have i53 := his 1053 6 (by decide)
      have i54 := his 1054 7 (by decide)
      have i57 := his 1057 9 (by decide)
      have i58 := his 1058 10 (by decide)
      have i59 := his 1059 11 (by decide)
      have go109 : ∀ r, (if kWd T tt ≠ 0 then rI (nI (kWd T tt - 1)) (mS c qc s) else if jTw T tt (kWs 6) = true ∨ jTw T tt (kWs 7) = true then fMt_schemaOf_133 (E + d + 11) c (nI v) (nI dep0) (nI tt) (mS c qc s) else if jTw T tt (kWs 9) = true ∨ jTw T tt (kWs 10) = true ∨ jTw T tt (kWs 11) = true then fMt_schemaOf_200 (E + d + 11) c (nI v) (nI dep0) (nI tt) (mS c qc s) else if kDf T qc tt = 0 then fMt_schemaOf_216 (E + d + 11) c (nI tt) (zI 0) 0 (mS c qc s) else rI (nI (kDf T qc tt - 1)) (mS c qc s)) = some r → fMt_schemaOf (E + d + 11) c (nI v) (nI dep0) (if br then 1 else 0) (mS c q s) = some r := by
        intro r hr
        refine go86 _ ?_
        refine eMt_schemaOf_109 (E + d + 10) c _ _ _ _ _ hc _ ?_
        rw [ldI_n (by omega) (by omega), Mt_need1 _ hc, cG_V]
        simp only [hwd, cG_I]
        by_cases hw : kWd T tt ≠ 0
        · rw [if_pos hw] at hr
          have hz : zI (kWd T tt) = nI (kWd T tt - 1) := zI_pos (by omega)
          rw [hz, if_neg (nI_pos (by omega))]
          exact hr
        rw [if_neg hw] at hr
        have hw0 : kWd T tt = 0 := by omega
        rw [hw0, if_pos (by decide)]
        simp only [i53, cG_I]
        by_cases b6 : jTw T tt (kWs 6) = true
        · rw [if_pos (.inl b6)] at hr
          rw [if_pos (by rw [b6]; decide)]
          exact hr
        rw [if_neg (by rw [if_neg b6]; decide)]
        simp only [i54, cG_I]
        by_cases b7 : jTw T tt (kWs 7) = true
        · rw [if_pos (.inr b7)] at hr
          rw [if_neg (by rw [b7]; decide)]
          exact hr
        rw [if_neg (by intro e; rcases e with e | e; exact b6 e; exact b7 e)] at hr
        rw [if_pos (by rw [if_neg b7])]
        simp only [i57, cG_I]
        by_cases b9 : jTw T tt (kWs 9) = true
        · rw [if_pos (.inl b9)] at hr
          rw [if_pos (by rw [b9]; decide)]
          exact hr
        rw [if_neg (by rw [if_neg b9]; decide)]
        simp only [i58, cG_I]
        by_cases b10 : jTw T tt (kWs 10) = true
        · rw [if_pos (.inr (.inl b10))] at hr
          rw [if_pos (by rw [b10]; decide)]
          exact hr
        rw [if_neg (by rw [if_neg b10]; decide)]
        simp only [i59, cG_I]
        by_cases b11 : jTw T tt (kWs 11) = true
        · rw [if_pos (.inr (.inr b11))] at hr
          rw [if_neg (by rw [b11]; decide)]
          exact hr
        rw [if_neg (by intro e; rcases e with e | e | e; exact b9 e; exact b10 e; exact b11 e)] at hr
        rw [if_pos (by rw [if_neg b11])]
        simp only [hdf, cG_I]
        by_cases hz : kDf T qc tt = 0
        · rw [if_pos hz] at hr
          rw [hz, if_pos (by decide)]
          exact hr
        · rw [if_neg hz] at hr
          rw [zI_pos (by omega), if_neg (nI_pos (by omega))]
          refine eMt_schemaOf_216 (E + d + 10) c _ _ _ _ hc _ ?_
          rw [ldI_n (by omega) (by omega), Mt_need1 _ hc, cG_V]
          exact hr
      by_cases hw : kWd T tt ≠ 0
      · rw [if_pos hw] at go109
        have hkt := kWd_kt hw
        rw [if_neg (show ¬ (kKt T tt = 7 ∨ kKt T tt = 8) by omega), if_neg (show ¬ 9 < kKt T tt by omega)]
        unfold kKn
        rw [if_pos hw]
        exact go109 _ rfl
      rw [if_neg hw] at go109
      have hkn6 : ¬ (1 ≤ kKt T tt ∧ kKt T tt ≤ 6) := by
        intro h
        have h1 := kKt_1 (T := T) (v := tt) (by omega)
        have hz : kWd T tt = 0 := by omega
        have := (kFr_0 _ _).mp hz (kKt T tt - 1) (by omega) (by omega)
        rw [h1.2.2] at this
        cases this
      by_cases h67 : kKt T tt = 7 ∨ kKt T tt = 8
      · rw [if_pos h67]
        have hb : jTw T tt (kWs 6) = true ∨ jTw T tt (kWs 7) = true := by
          have h1 := kKt_1 (T := T) (v := tt) (by omega)
          rcases h67 with h | h
          · rw [h] at h1; exact .inl h1.2.2
          · rw [h] at h1; exact .inr h1.2.2
        rw [if_pos hb] at go109
        have hco := Mt_coll hcx (d + 2) hd hpc hn1 h0 (ty := tt) (k := kKt T tt - 1) (by omega) ht.2 (by omega) (by omega)
        exact kRm_go hco (fun r hr => go109 _ hr)
      rw [if_neg h67]
      have hnb : ¬ (jTw T tt (kWs 6) = true ∨ jTw T tt (kWs 7) = true) := by
        intro e
        rcases e with e | e
        · have := kKt_tw (T := T) (v := tt) (j := 6) (by omega) (by omega) e; omega
        · have := kKt_tw (T := T) (v := tt) (j := 7) (by omega) (by omega) e; omega
      rw [if_neg hnb] at go109
      by_cases h9 : 9 < kKt T tt
      · rw [if_pos h9]
        have h1 := kKt_1 (T := T) (v := tt) (by omega)
        have h3 : kKt T tt = 10 ∨ kKt T tt = 11 ∨ kKt T tt = 12 := by omega
        have hb : jTw T tt (kWs 9) = true ∨ jTw T tt (kWs 10) = true ∨ jTw T tt (kWs 11) = true := by
          rcases h3 with h | h | h
          · rw [h] at h1; exact .inl h1.2.2
          · rw [h] at h1; exact .inr (.inl h1.2.2)
          · rw [h] at h1; exact .inr (.inr h1.2.2)
        rw [if_pos hb] at go109
        have hna := Mt_named hcx d hd hpc hn1 h0 (ty := tt) (by omega) ht.2 h3
        revert hna
        cases kNa T N rec v (kKt T tt - 1) qc with
        | error er =>
          obtain ⟨k0, e0⟩ := er
          rintro ⟨q', h⟩
          refine ⟨q', go109 _ ?_⟩
          refine eMt_schemaOf_200 (E + d + 10) c _ _ _ _ hc _ ?_
          rw [h, cG_T]
          rfl
        | ok qx =>
          obtain ⟨q2, x⟩ := qx
          intro h
          have h : fMt_named (E + d + 10) c (nI v) (nI tt) (nI dep0) (mS c qc s) = rI (nI x) (mS c q2 s) := h
          refine go109 _ ?_
          refine eMt_schemaOf_200 (E + d + 10) c _ _ _ _ hc _ ?_
          rw [h, cG_I]
          rfl
      rw [if_neg h9]
      have hnb2 : ¬ (jTw T tt (kWs 9) = true ∨ jTw T tt (kWs 10) = true ∨ jTw T tt (kWs 11) = true) := by
        intro e
        rcases e with e | e | e
        · have := kKt_tw (T := T) (v := tt) (j := 9) (by omega) (by omega) e; omega
        · have := kKt_tw (T := T) (v := tt) (j := 10) (by omega) (by omega) e; omega
        · have := kKt_tw (T := T) (v := tt) (j := 11) (by omega) (by omega) e; omega
      rw [if_neg hnb2] at go109
      unfold kKn
      rw [if_neg hw]
      by_cases hz : kDf T qc tt = 0
      · rw [if_neg (show ¬ kDf T qc tt ≠ 0 from fun e => e hz)]
        rw [if_pos hz] at go109
        refine ⟨qc, go109 _ ?_⟩
        refine eMt_schemaOf_216 (E + d + 10) c _ _ _ _ hc _ ?_
        rw [ldI_n (by omega) (by omega), (hTq.1 tt (by omega)).2.1, Mt_nd0 _ hc, cG_T]
        rfl
      · rw [if_pos hz]
        rw [if_neg hz] at go109
        exact go109 _ rfl
/-- the schema of a value, in the reference -/
theorem Mt_so (hc : isT c) (hT : mT c s T N m l) (hG : jGt T N m l n) : ∀ D, D ≤ 16 → ∀ d v (br : Bool) q, kPre T N m q v → kRm c s (fMt_schemaOf (3 * D + d + 8) c (nI v) (nI (16 - D)) (if br then 1 else 0) (mS c q s)) (kSo T N D v br q) := by
  intro D
  induction D with
  | zero =>
    intro _ d v br q hp
    obtain ⟨hI, hv, hbud, h40⟩ := hp
    have hm := hG.1
    have hlt := jVb_lt hv
    have hlk := hI.1
    have f1v := ((mS_T (q := q) hT).1 v (by omega)).2.1
    unfold kSo
    by_cases h : q.1 0 < 128
    · rw [if_pos h]
      refine ⟨kC q 0 (q.1 0 + 1), ?_⟩
      refine eMt_schemaOf (3 * 0 + d + 7) c _ _ _ _ hc _ ?_
      rw [mS_lk]
      simp (disch := omega) only [nI_lit 128, nI_leE]
      rw [if_neg (by omega)]
      refine eMt_schemaOf_8 (3 * 0 + d + 7) c _ _ _ _ _ hc _ ?_
      rw [ldI_n (by omega) (by omega), Mt_need1 _ hc, cG_V, wI_eq, mS_lk, nI_add1, mS_c0, if_pos (by decide)]
      refine eMt_schemaOf_27 (3 * 0 + d + 7) c _ _ _ _ _ hc _ ?_
      rw [ldI_n (by omega) (by omega), ((mS_T (q := kC q 0 (q.1 0 + 1)) hT).1 v (by omega)).2.1, Mt_nd0 _ hc, cG_T]
      rfl
    · rw [if_neg h]
      refine ⟨q, ?_⟩
      refine eMt_schemaOf (3 * 0 + d + 7) c _ _ _ _ hc _ ?_
      rw [mS_lk]
      simp (disch := omega) only [nI_lit 128, nI_leE]
      rw [if_pos (by omega)]
      refine eMt_schemaOf_8 (3 * 0 + d + 7) c _ _ _ _ _ hc _ ?_
      rw [ldI_n (by omega) (by omega), f1v, Mt_nd0 _ hc, cG_T]
      rfl
  | succ D ih =>
    intro hD d v br q hp
    have cx : mCx c s T N m l n (kSo T N D) (3 * D) (16 - D) := ⟨hc, hT, hG, kSo_ok D, fun d v br q hp => ih (by omega) d v br q hp⟩
    have h := Mt_so0 cx d (dep0 := 16 - (D + 1)) (by omega) (by omega) br hp
    have e : 3 * D + d + 11 = 3 * (D + 1) + d + 8 := by omega
    rw [e] at h
    exact h
end
