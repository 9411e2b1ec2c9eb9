/-! the reference's Text: records, names, the schema of a value -/
section
variable {c : Nat} {q : kP} {s : aT} {T : Nat → Nat → Nat} {N : Nat → Int} {m l n : Nat} {rec : kR} {E dep : Nat}
theorem Mt_fields (cx : mCx c s T N m l n rec E dep) (d : Nat) {dep0 : Nat} (hd : dep0 + 1 = dep) {q0 : kP} {t v : Nat} (hl : kLo T m q0 t q) (h11 : q.2.1 0 t = 11) (h4 : q.2.1 4 t = 0) (hv : jVb T N m v) (h0 : T 0 v = 0) (hbud : 2 * q.1 2 + kWv T v ≤ 4300) (h40 : q.1 4 ≤ q.1 0) : match kRc T rec v t q with
    | .ok (q', t') => t' = t ∧ fMt_fields (E + d + 9) c (nI t) (nI v) (nI dep0) (mS c q s) = rV (mS c q' s)
    | .error (k0, e0) => ∃ q', fMt_fields (E + d + 9) c (nI t) (nI v) (nI dep0) (mS c q s) = rT 0 (mS c q' (mFt c s (nI k0) (nI e0))) := by
  have hcx := cx
  obtain ⟨hc, hT, hG, hre, hrec⟩ := cx
  have hm := hG.1
  have hlt := jVb_lt hv
  have hTq := mS_T (q := q) hT
  have hm19 := Mt_mb (E + d + 1) hc hTq hG hv h0 (w := 1064) (k := 19) (by decide)
  have f1v := (hTq.1 v (by omega)).2.1
  unfold kRc
  have hmle := kMb_le (W := kWs 19) hv h0
  have hok := fun h => kMb_ok (W := kWs 19) hv h0 h
  have hm3 := kGm_3 hv h0 (W1 := kWs 15) (W2 := kWs 19) (W3 := kWs 12) (by decide) (by decide) (by decide)
  generalize kMb T v (kWs 19) = L at *
  by_cases hz : L = 0
  · rw [if_pos hz]
    refine ⟨q, ?_⟩
    refine eMt_fields (E + d + 8) c _ _ _ _ hc _ ?_
    rw [hm19, cG_I, hz, if_pos (by decide)]
    refine eMt_fields_11 (E + d + 8) c _ _ _ _ _ _ hc _ ?_
    rw [ldI_n (by omega) (by omega), f1v, Mt_nd0 _ hc, cG_T]
    rfl
  · rw [if_neg hz]
    have m2 := hok hz
    have hlt2 := jVb_lt m2.1
    have hw2 := kWv_eq (T := T) hlt2.1
    have hkk := jVb_k m2.1
    obtain ⟨L, rfl⟩ : ∃ L', L = L' + 1 := ⟨L - 1, by omega⟩
    rw [Nat.add_sub_cancel] at *
    have fL := hTq.1 L (by omega)
    have go11 : ∀ r, (if T 0 L = 1 ∧ T 2 L < 33 then fMt_fields_33 (E + d + 9) c (nI t) (nI dep0) (nI L) 1 (mS c q s) else fMt_fields_33 (E + d + 9) c (nI t) (nI dep0) (nI L) 0 (mS c q s)) = some r → fMt_fields (E + d + 9) c (nI t) (nI v) (nI dep0) (mS c q s) = some r := by
      intro r hr
      have h32 : ∀ r, fMt_fields_33 (E + d + 9) c (nI t) (nI dep0) (nI L) 0 (mS c q s) = some r → fMt_fields_32 (E + d + 9) c (nI t) (nI dep0) (nI L) (mS c q s) = some r := fun r hr => eMt_fields_32 (E + d + 8) c _ _ _ _ hc _ hr
      refine eMt_fields (E + d + 8) c _ _ _ _ hc _ ?_
      rw [hm19, cG_I, zI_S, if_neg (nI_pos (by omega))]
      refine eMt_fields_11 (E + d + 8) c _ _ _ _ _ _ hc _ ?_
      rw [ldI_n (by omega) (by omega), Mt_need1 _ hc, cG_V, ldI_n (by omega) (by omega), fL.1]
      simp (disch := omega) only [nI_lit 1, nI_eqE]
      by_cases h1 : T 0 L = 1
      · have h2le := jVb_2le hG m2.1 h1
        rw [if_neg (fun e => e h1), ldI_n (by omega) (by omega), mT_Z hTq (by omega) (by omega)]
        simp (disch := omega) only [nI_lit 33, nI_leE]
        by_cases h33 : 33 ≤ T 2 L
        · rw [if_neg (by omega)] at hr
          rw [if_pos h33]
          exact h32 _ hr
        · rw [if_pos ⟨h1, by omega⟩] at hr
          rw [if_neg h33]
          exact hr
      · rw [if_neg (fun e => h1 e.1)] at hr
        rw [if_pos h1]
        exact h32 _ hr
    by_cases hL : T 0 L = 1 ∧ T 2 L < 33
    · rw [if_pos hL]
      rw [if_pos hL] at go11
      have hap := kLo_ap (n := T 2 L) hl (by omega) h4 (by omega)
      have a2 : (kAp t (T 2 L) q).1 2 = q.1 2 := rfl
      have hs46 := Mt_f46 hcx d (x3 := nI dep0) (by rw [nI_add1, hd]) (q0 := q0) (t := t) (e := jE T L) hlt2.2 _ _ _ _ (jVb_l m2.1 hL.1) hap.1 (by rw [hap.2.1 0 (by omega)]; exact h11) (by rw [hap.2.1 4 (by omega), hap.2.2, h4]; omega) (by rw [a2]; omega) h40
      have els : kLs (kAp t (T 2 L) q) t = 0 := by unfold kLs; rw [hap.2.1 4 (by omega), h4, if_pos rfl]
      rw [els, mS_ap] at hs46
      have go33 : ∀ r, fMt_fields_46 (E + d + 9) c (nI t) (nI dep0) (zI 0) (zI (T 3 L)) (mS c q s) = some r → fMt_fields (E + d + 9) c (nI t) (nI v) (nI dep0) (mS c q s) = some r := by
        intro r hr
        refine go11 _ ?_
        refine eMt_fields_33 (E + d + 8) c _ _ _ _ _ hc _ ?_
        rw [ldI_n (by omega) (by omega), Mt_need1 _ hc, cG_V, ldI_n (by omega) (by omega), fL.2.2.2.1]
        exact hr
      cases hfl : kFl T rec t (T 2 L) (T 3 L) (kAp t (T 2 L) q) with
      | error er =>
        obtain ⟨k0, e0⟩ := er
        rw [hfl] at hs46
        obtain ⟨q', h⟩ := hs46
        exact ⟨q', go33 _ h⟩
      | ok q2 =>
        rw [hfl] at hs46
        have h : fMt_fields_46 (E + d + 9) c (nI t) (nI dep0) (zI 0) (zI (T 3 L)) (mS c q s) = rV (mS c q2 s) := hs46
        exact ⟨rfl, go33 _ h⟩
    · rw [if_neg hL]
      rw [if_neg hL] at go11
      refine ⟨q, go11 _ ?_⟩
      refine eMt_fields_33 (E + d + 8) c _ _ _ _ _ hc _ ?_
      rw [ldI_n (by omega) (by omega), fL.2.1, Mt_nd0 _ hc, cG_T]
      rfl
theorem kWs_inj0 : ∀ i, i < 12 → ∀ j, j < 12 → (i == 8 || j == 8 || !(kWs i == kWs j) || i == j) = true := by decide +kernel
theorem kWs_inj (i : Nat) (hi : i < 12) (j : Nat) (hj : j < 12) (h1 : i ≠ 8) (h2 : j ≠ 8) (h : kWs i = kWs j) : i = j := by
  have := kWs_inj0 i hi j hj
  simpa [h1, h2, h] using this
theorem kKt_tw {v j : Nat} (hj : j < 12) (h8 : j ≠ 8) (h : jTw T v (kWs j) = true) : kKt T v = j + 1 := by
  have hn : kKt T v ≠ 0 := by
    intro hz
    have := (kFr_0 _ _).mp hz j (by omega) (by omega)
    simp [h8, h] at this
  have h1 := kKt_1 hn
  have h2 := jTw_inj h1.2.2 h
  have := kWs_inj (kKt T v - 1) (by omega) j hj (by omega) h8 h2
  omega
theorem kKt_0 {v : Nat} (h : kKt T v = 0) {j : Nat} (hj : j < 12) (h8 : j ≠ 8) : jTw T v (kWs j) = false := by
  cases hb : jTw T v (kWs j) with
  | false => rfl
  | true =>
    have := kKt_tw hj h8 hb
    omega
theorem kKt_ne {v j : Nat} (hj : j < 12) (h8 : j ≠ 8) (h : kKt T v ≠ j + 1) : jTw T v (kWs j) = false := by
  cases hb : jTw T v (kWs j) with
  | false => rfl
  | true => exact absurd (kKt_tw hj h8 hb) h
theorem kWd_kt {v : Nat} (h : kWd T v ≠ 0) : kKt T v = kWd T v := by
  unfold kWd at h
  have h1 := kFr_1 _ _ h
  have := kKt_tw (j := kWd T v - 1) (by unfold kWd; omega) (by unfold kWd; omega) h1.2.2
  unfold kWd at this ⊢
  omega
theorem Mt_named (cx : mCx c s T N m l n rec E dep) (d : Nat) {dep0 : Nat} (hd : dep0 + 1 = dep) {v ty : Nat} (hp : kPre T N m q v) (hn1 : q.1 1 + 1 ≤ 6 + q.1 0) (h0 : T 0 v = 0) (hty : ty < m) (hty2 : T 0 ty = 2) (hk : kKt T ty = 10 ∨ kKt T ty = 11 ∨ kKt T ty = 12) : kRm c s (fMt_named (E + d + 10) c (nI v) (nI ty) (nI dep0) (mS c q s)) (kNa T N rec v (kKt T ty - 1) q) := by
  have hcx := cx
  obtain ⟨hc, hT, hG, hre, hrec⟩ := cx
  obtain ⟨hI, hv, hbud, h40⟩ := hp
  have hm := hG.1
  have hlt := jVb_lt hv
  have hTq := mS_T (q := q) hT
  have hn : q.1 1 < 140 := by have := hI.1; omega
  have f1v := (hTq.1 v (by omega)).2.1
  have hm15 := Mt_mb (E + d + 2) hc hTq hG hv h0 (w := 1060) (k := 15) (by decide)
  unfold kNa
  have hmle := kMb_le (W := kWs 15) hv h0
  have hok15 := fun h => kMb_ok (W := kWs 15) hv h0 h
  generalize kMb T v (kWs 15) = nm at *
  have go17 : ∀ r, (if nm ≠ 0 ∧ T 0 (nm - 1) = 2 then fMt_named_17 (E + d + 10) c (nI v) (nI ty) (nI dep0) (nI (nm - 1)) 1 (mS c q s) else fMt_named_17 (E + d + 10) c (nI v) (nI ty) (nI dep0) (zI nm) 0 (mS c q s)) = some r → fMt_named (E + d + 10) c (nI v) (nI ty) (nI dep0) (mS c q s) = some r := by
    intro r hr
    refine eMt_named (E + d + 9) c _ _ _ _ hc _ ?_
    rw [hm15, cG_I]
    by_cases hz : nm = 0
    · rw [if_neg (fun e => e.1 hz)] at hr
      rw [hz] at hr ⊢
      rw [if_pos (by decide)]
      exact eMt_named_16 (E + d + 9) c _ _ _ _ _ hc _ hr
    · have hkn := jVb_k (hok15 hz).1
      have ez : zI nm = nI (nm - 1) := zI_pos (by omega)
      rw [ez] at hr ⊢
      rw [if_neg (nI_pos (by omega)), ldI_n (by omega) (by omega), (hTq.1 (nm - 1) (by omega)).1]
      simp (disch := omega) only [nI_lit 2, nI_eqE]
      by_cases h2 : T 0 (nm - 1) = 2
      · rw [if_pos ⟨hz, h2⟩] at hr
        rw [if_neg (fun e => e h2)]
        exact hr
      · rw [if_neg (fun e => h2 e.2)] at hr
        rw [if_pos h2]
        exact eMt_named_16 (E + d + 9) c _ _ _ _ _ hc _ hr
  by_cases hnm : nm ≠ 0 ∧ T 0 (nm - 1) = 2
  case neg =>
    rw [if_neg hnm]
    rw [if_neg hnm] at go17
    refine ⟨q, go17 _ ?_⟩
    refine eMt_named_17 (E + d + 9) c _ _ _ _ _ _ hc _ ?_
    rw [ldI_n (by omega) (by omega), f1v, Mt_nd0 _ hc, cG_T]
    rfl
  rw [if_pos hnm]
  rw [if_pos hnm] at go17
  have hv15 := hok15 hnm.1
  have hlt15 := jVb_lt hv15.1
  have hnam := Mt_isName (E + d + 9) hc hTq hG (v := nm - 1) (by omega) (by omega)
  have hwd := Mt_word6 (E + d + 2) hc hTq hG (v := nm - 1) (by omega) (by omega)
  have his := fun w k hw => Mt_isw (w := w) (k := k) (E + d + 3) hc hTq hG (v := nm - 1) (by omega) (by omega) hw
  have i53 := his 1053 6 (by decide)
  have i54 := his 1054 7 (by decide)
  have i57 := his 1057 9 (by decide)
  have i58 := his 1058 10 (by decide)
  have i59 := his 1059 11 (by decide)
  have hdf := Mt_defined (s := s) (E + d + 8) hc hT hG hI (v := nm - 1) (by omega) hnm.2
  have g62 : ∀ r, fMt_named_63 (E + d + 10) c (nI v) (nI ty) (nI dep0) (nI (nm - 1)) 0 (mS c q s) = some r → fMt_named_62 (E + d + 10) c (nI v) (nI ty) (nI dep0) (nI (nm - 1)) (mS c q s) = some r := fun r hr => eMt_named_62 (E + d + 9) c _ _ _ _ _ hc _ hr
  have hdfl : kDf T q (nm - 1) ≤ q.1 1 := by
    by_cases h : kDf T q (nm - 1) = 0
    · omega
    · exact (kDf_ok hI h).2.1
  have hwdl : kWd T (nm - 1) ≤ 6 := by
    by_cases h : kWd T (nm - 1) = 0
    · omega
    · exact (kFr_1 _ _ h).2.1
  have go63 : ∀ r, (if kNam T (nm - 1) = true ∧ kKt T (nm - 1) = 0 ∧ kDf T q (nm - 1) = 0 then fMt_named_63 (E + d + 10) c (nI v) (nI ty) (nI dep0) (nI (nm - 1)) 1 (mS c q s) else fMt_named_63 (E + d + 10) c (nI v) (nI ty) (nI dep0) (nI (nm - 1)) 0 (mS c q s)) = some r → fMt_named (E + d + 10) c (nI v) (nI ty) (nI dep0) (mS c q s) = some r := by
    intro r hr
    refine go17 _ ?_
    refine eMt_named_17 (E + d + 9) c _ _ _ _ _ _ hc _ ?_
    rw [ldI_n (by omega) (by omega), Mt_need1 _ hc, cG_V, hnam, cG_I]
    by_cases hna : kNam T (nm - 1) = true
    case neg =>
      rw [if_neg (fun e => hna e.1)] at hr
      rw [if_pos (by rw [if_neg hna])]
      exact g62 _ hr
    rw [if_neg (by rw [hna]; decide), hwd, cG_I]
    by_cases hw : kWd T (nm - 1) = 0
    case neg =>
      rw [if_neg (fun e => by have := kWd_kt hw; omega)] at hr
      rw [if_pos (by rw [zI_pos (by omega), show (0 : Int32) = nI 0 from rfl]; exact nI_le (by omega) (by omega))]
      exact g62 _ hr
    rw [hw, if_neg (by decide)]
    simp only [i53, cG_I]
    by_cases b6 : jTw T (nm - 1) (kWs 6) = true
    · rw [if_neg (fun e => by have := kKt_tw (by omega) (by omega) b6; omega)] at hr
      rw [if_pos (by rw [b6]; decide)]
      exact g62 _ hr
    rw [if_neg (by rw [if_neg b6]; decide)]
    simp only [i54, cG_I]
    by_cases b7 : jTw T (nm - 1) (kWs 7) = true
    · rw [if_neg (fun e => by have := kKt_tw (by omega) (by omega) b7; omega)] at hr
      rw [if_pos (by rw [b7]; decide)]
      exact g62 _ hr
    rw [if_neg (by rw [if_neg b7]; decide)]
    simp only [i57, cG_I]
    by_cases b9 : jTw T (nm - 1) (kWs 9) = true
    · rw [if_neg (fun e => by have := kKt_tw (by omega) (by omega) b9; omega)] at hr
      rw [if_pos (by rw [b9]; decide)]
      exact g62 _ hr
    rw [if_neg (by rw [if_neg b9]; decide)]
    simp only [i58, cG_I]
    by_cases b10 : jTw T (nm - 1) (kWs 10) = true
    · rw [if_neg (fun e => by have := kKt_tw (by omega) (by omega) b10; omega)] at hr
      rw [if_pos (by rw [b10]; decide)]
      exact g62 _ hr
    rw [if_neg (by rw [if_neg b10]; decide)]
    simp only [i59, cG_I]
    by_cases b11 : jTw T (nm - 1) (kWs 11) = true
    · rw [if_neg (fun e => by have := kKt_tw (by omega) (by omega) b11; omega)] at hr
      rw [if_pos (by rw [b11]; decide)]
      exact g62 _ hr
    rw [if_neg (by rw [if_neg b11]; decide)]
    have hkt : kKt T (nm - 1) = 0 := by
      by_cases hz : kKt T (nm - 1) = 0
      · exact hz
      · exfalso
        have h1 := kKt_1 hz
        have hc2 : kKt T (nm - 1) - 1 < 6 ∨ kKt T (nm - 1) - 1 = 6 ∨ kKt T (nm - 1) - 1 = 7 ∨ kKt T (nm - 1) - 1 = 9 ∨ kKt T (nm - 1) - 1 = 10 ∨ kKt T (nm - 1) - 1 = 11 := by omega
        rcases hc2 with g | g | g | g | g | g
        · have := (kFr_0 _ _).mp hw (kKt T (nm - 1) - 1) (by omega) (by omega)
          rw [h1.2.2] at this
          cases this
        · rw [g] at h1; exact b6 h1.2.2
        · rw [g] at h1; exact b7 h1.2.2
        · rw [g] at h1; exact b9 h1.2.2
        · rw [g] at h1; exact b10 h1.2.2
        · rw [g] at h1; exact b11 h1.2.2
    have hdf' : fMt_defined (E + d + 9) c (nI (nm - 1)) (mS c q s) = rI (zI (kDf T q (nm - 1))) (mS c q s) := hdf
    simp only [hdf', cG_I]
    by_cases hz : kDf T q (nm - 1) = 0
    · rw [if_pos ⟨hna, hkt, hz⟩] at hr
      rw [hz, if_neg (by decide)]
      exact hr
    · rw [if_neg (fun e => hz e.2.2)] at hr
      rw [if_pos (by rw [zI_pos (by omega), show (0 : Int32) = nI 0 from rfl]; exact nI_le (by omega) (by omega))]
      exact g62 _ hr
  by_cases hna : kNam T (nm - 1) = true ∧ kKt T (nm - 1) = 0 ∧ kDf T q (nm - 1) = 0
  case neg =>
    rw [if_neg hna]
    rw [if_neg hna] at go63
    refine ⟨q, go63 _ ?_⟩
    refine eMt_named_63 (E + d + 9) c _ _ _ _ _ _ hc _ ?_
    rw [ldI_n (by omega) (by omega), (hTq.1 (nm - 1) (by omega)).2.1, Mt_nd0 _ hc, cG_T]
    rfl
  rw [if_pos hna]
  rw [if_pos hna] at go63
  have hk9 : 9 ≤ kKt T ty - 1 ∧ kKt T ty - 1 ≤ 11 := by omega
  have j57 := Mt_isw (w := 1057) (k := 9) (E + d + 3) hc hTq hG (v := ty) hty (by omega) (by decide)
  have j58 := Mt_isw (w := 1058) (k := 10) (E + d + 3) hc hTq hG (v := ty) hty (by omega) (by decide)
  have go88 : ∀ r, fMt_named_88 (E + d + 10) c (nI v) (nI dep0) (nI (nm - 1)) (nI (kKt T ty - 1)) (mS c q s) = some r → fMt_named (E + d + 10) c (nI v) (nI ty) (nI dep0) (mS c q s) = some r := by
    intro r hr
    refine go63 _ ?_
    refine eMt_named_63 (E + d + 9) c _ _ _ _ _ _ hc _ ?_
    rw [ldI_n (by omega) (by omega), Mt_need1 _ hc, cG_V]
    simp only [j57, cG_I]
    rcases hk with hk | hk | hk
    · have hb := (kKt_1 (T := T) (v := ty) (by omega)).2.2
      rw [hk] at hb hr
      rw [if_neg (by rw [hb]; decide)]
      exact hr
    · have hb := (kKt_1 (T := T) (v := ty) (by omega)).2.2
      have hb9 := kKt_ne (T := T) (v := ty) (j := 9) (by omega) (by omega) (by omega)
      rw [hk] at hb hr
      rw [if_pos (by rw [hb9]; decide)]
      simp only [j58, cG_I]
      rw [if_neg (by rw [hb]; decide)]
      exact hr
    · have hb9 := kKt_ne (T := T) (v := ty) (j := 9) (by omega) (by omega) (by omega)
      have hb10 := kKt_ne (T := T) (v := ty) (j := 10) (by omega) (by omega) (by omega)
      rw [hk] at hr
      rw [if_pos (by rw [hb9]; decide)]
      simp only [j58, cG_I]
      rw [if_pos (by rw [hb10]; decide)]
      exact hr
  generalize kKt T ty - 1 = kk at *
  have hl0 := kLo_nn (k := kk) (x := nm - 1) hI hn1 hk9 (by omega) hna.1
  have r0 := kNn_r (T := T) (k := kk) (x := nm - 1) (q := q) (r := 0) (by omega)
  have r4 := kNn_r (T := T) (k := kk) (x := nm - 1) (q := q) (r := 4) (by omega)
  rw [if_pos rfl] at r0
  rw [if_neg (by omega), if_neg (by omega)] at r4
  have hsh := Mt_shape (s := s) (E + d + 9) hc (k := kk) (q := q) (by have := hI.1; omega) hn
  have hnn := mS_nn (c := c) (s := s) (T := T) (q := kSh kk q) (t := q.1 1) (x := nm - 1) (Nat.lt_succ_self _)
  have c2 : (kNn T (q.1 1) (nm - 1) (kSh kk q)).1 2 = q.1 2 := rfl
  have c4 : (kNn T (q.1 1) (nm - 1) (kSh kk q)).1 4 = q.1 4 := rfl
  have c0 : (kNn T (q.1 1) (nm - 1) (kSh kk q)).1 0 = q.1 0 := rfl
  have c1 : (kNn T (q.1 1) (nm - 1) (kSh kk q)).1 1 = q.1 1 + 1 := rfl
  generalize hqn : kNn T (q.1 1) (nm - 1) (kSh kk q) = qn at *
  have hTn := mS_T (q := qn) hT
  have go9 : ∀ r, (if kk = 9 then cG (fMt_member (E + d + 9) c (nI v) 1061 (mS c qn s)) (kI fun v9 s8 => if v9 < 0 then fMt_named_112 (E + d + 10) c (nI v) (nI (q.1 1)) v9 0 s8 else fMt_named_112 (E + d + 10) c (nI v) (nI (q.1 1)) v9 1 s8) else if kk = 10 then cG (fMt_symbols (E + d + 9) c (nI (q.1 1)) (nI v) (mS c qn s)) (kV fun s7 => rI (nI (q.1 1)) s7) else cG (fMt_fields (E + d + 9) c (nI (q.1 1)) (nI v) (nI dep0) (mS c qn s)) (kV fun s6 => rI (nI (q.1 1)) s6)) = some r → fMt_named (E + d + 10) c (nI v) (nI ty) (nI dep0) (mS c q s) = some r := by
    intro r hr
    refine go88 _ ?_
    refine eMt_named_88 (E + d + 9) c _ _ _ _ _ hc _ ?_
    rw [hsh, cG_I, stI_n (by omega) (by omega), hnn, ldI_n (by omega) (by omega), mS_9 (by omega), r0, ldI_n (by omega) (by omega), mS_9 (by omega), r0]
    simp (disch := omega) only [nI_lit 9, nI_lit 10, nI_eqE]
    by_cases h9 : kk = 9
    · rw [if_pos h9] at hr
      rw [if_neg (fun e => e h9)]
      exact hr
    · rw [if_neg h9] at hr
      rw [if_pos h9]
      by_cases h10 : kk = 10
      · rw [if_pos h10] at hr
        rw [if_neg (fun e => e h10)]
        exact hr
      · rw [if_neg h10] at hr
        rw [if_pos h10]
        exact hr
  by_cases h9 : kk = 9
  · rw [if_pos h9]
    rw [if_pos h9] at go9
    have hm16 := Mt_mb (E + d + 2) hc hTn hG hv h0 (w := 1061) (k := 16) (by decide)
    have hm16' : fMt_member (E + d + 9) c (nI v) 1061 (mS c qn s) = rI (zI (kMb T v (kWs 16))) (mS c qn s) := hm16
    rw [hm16', cG_I] at go9
    unfold kFx
    have hle16 := kMb_le (W := kWs 16) hv h0
    have hok16 := fun h => kMb_ok (W := kWs 16) hv h0 h
    generalize kMb T v (kWs 16) = z at *
    by_cases hz : z = 0
    · rw [if_pos hz]
      rw [hz, if_pos (by decide)] at go9
      refine ⟨qn, go9 _ ?_⟩
      refine eMt_named_112 (E + d + 9) c _ _ _ _ _ hc _ ?_
      rw [ldI_n (by omega) (by omega), (hTn.1 v (by omega)).2.1, Mt_nd0 _ hc, cG_T]
      rfl
    · rw [if_neg hz]
      have hvz := hok16 hz
      have hkz := jVb_k hvz.1
      have hnum := fun h => jVb_num hvz.1 h
      obtain ⟨z, rfl⟩ : ∃ z', z = z' + 1 := ⟨z - 1, by omega⟩
      rw [Nat.add_sub_cancel] at *
      rw [zI_S, if_neg (nI_pos (by omega))] at go9
      have fz := hTn.1 z (by omega)
      have g142 : fMt_named_142 (E + d + 10) c (nI (q.1 1)) (nI z) 0 (mS c qn s) = rT 0 (mS c qn (mFt c s 10 (nI (T 1 z)))) := by
        refine eMt_named_142 (E + d + 9) c _ _ _ _ hc _ ?_
        rw [ldI_n (by omega) (by omega), fz.2.1, Mt_nd0 _ hc, cG_T]
        rfl
      have g141 : fMt_named_141 (E + d + 10) c (nI (q.1 1)) (nI z) (mS c qn s) = rT 0 (mS c qn (mFt c s 10 (nI (T 1 z)))) := eMt_named_141 (E + d + 9) c _ _ _ hc _ g142
      have go112 : ∀ r, (if T 0 z = 3 ∧ 0 ≤ N z ∧ N z ≤ 64 then fMt_named_142 (E + d + 10) c (nI (q.1 1)) (nI z) 1 (mS c qn s) else rT 0 (mS c qn (mFt c s 10 (nI (T 1 z))))) = some r → fMt_named (E + d + 10) c (nI v) (nI ty) (nI dep0) (mS c q s) = some r := by
        intro r hr
        refine go9 _ ?_
        refine eMt_named_112 (E + d + 9) c _ _ _ _ _ hc _ ?_
        rw [ldI_n (by omega) (by omega), Mt_need1 _ hc, cG_V, ldI_n (by omega) (by omega), fz.1]
        simp (disch := omega) only [nI_lit 3, nI_eqE]
        by_cases h3 : T 0 z = 3
        case neg =>
          rw [if_neg (fun e => h3 e.1)] at hr
          rw [if_pos h3, g141]
          exact hr
        have hb := hnum h3
        have ei : (Int64.ofInt (N z)).toInt = N z := Int64.toInt_ofInt_of_le (by omega) (by omega)
        rw [if_neg (fun e => e h3), ldL_n (by omega) (by omega), mT_N hTn (by omega) (by omega), ldL_n (by omega) (by omega), mT_N hTn (by omega) (by omega)]
        simp only [aLcmp_lt, aLcmp_gt, ei]
        have e0 : (0 : Int64).toInt = 0 := rfl
        have e64 : (64 : Int64).toInt = 64 := rfl
        rw [e0, e64]
        by_cases hlt0 : N z < 0
        · rw [if_neg (by omega)] at hr
          rw [if_pos hlt0, g141]
          exact hr
        · rw [if_neg hlt0]
          by_cases hgt : 64 < N z
          · rw [if_neg (by omega)] at hr
            rw [if_pos hgt, g141]
            exact hr
          · rw [if_pos ⟨h3, by omega, by omega⟩] at hr
            rw [if_neg hgt]
            exact hr
      by_cases hN : T 0 z = 3 ∧ 0 ≤ N z ∧ N z ≤ 64
      · rw [if_pos hN]
        rw [if_pos hN] at go112
        refine go112 _ ?_
        refine eMt_named_142 (E + d + 9) c _ _ _ _ hc _ ?_
        have eN : (Int64.ofInt (N z)).toInt32 = nI (N z).toNat := by
          have e1 : N z = ((N z).toNat : Int) := by omega
          rw [e1]
          exact long_nI
        rw [ldI_n (by omega) (by omega), Mt_need1 _ hc, cG_V, ldL_n (by omega) (by omega), mT_N hTn (by omega) (by omega), eN, stI_n (by omega) (by omega), mS_w11 hI.1.1 (by omega) (by rw [r0]; exact h9)]
        rfl
      · rw [if_neg hN]
        rw [if_neg hN] at go112
        exact ⟨qn, go112 _ rfl⟩
  · rw [if_neg h9]
    rw [if_neg h9] at go9
    by_cases h10 : kk = 10
    · rw [if_pos h10]
      rw [if_pos h10] at go9
      have hsy := Mt_symbols (s := s) (E + d) hc hT hG hl0 (by rw [r0]; exact h10) r4 hv h0 (by rw [c2]; exact hbud)
      cases hen : kEn T v (q.1 1) qn with
      | error er =>
        obtain ⟨k0, e0⟩ := er
        rw [hen] at hsy
        obtain ⟨q', h⟩ := hsy
        refine ⟨q', go9 _ ?_⟩
        rw [h, cG_T]
        rfl
      | ok qx =>
        obtain ⟨q2, t2⟩ := qx
        rw [hen] at hsy
        obtain ⟨rfl, h⟩ := hsy
        refine go9 _ ?_
        rw [h, cG_V]
        rfl
    · rw [if_neg h10]
      rw [if_neg h10] at go9
      have hfi := Mt_fields hcx d hd hl0 (by rw [r0]; omega) r4 hv h0 (by rw [c2]; exact hbud) (by rw [c4, c0]; exact h40)
      cases hen : kRc T rec v (q.1 1) qn with
      | error er =>
        obtain ⟨k0, e0⟩ := er
        rw [hen] at hfi
        obtain ⟨q', h⟩ := hfi
        refine ⟨q', go9 _ ?_⟩
        rw [h, cG_T]
        rfl
      | ok qx =>
        obtain ⟨q2, t2⟩ := qx
        rw [hen] at hfi
        obtain ⟨rfl, h⟩ := hfi
        refine go9 _ ?_
        rw [h, cG_V]
        rfl
end
