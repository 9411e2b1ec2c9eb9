/-! the reference's Text: a fault leaves no plain form -/
def mGc (c : Nat) (t s : aT) : Prop := mGb c t s ∧ gI t c 33 = gI s c 33
section
variable {c : Nat} {s t : aT} {B : Nat → Nat} {n : Nat}
theorem mGc_refl : mGc c s s := ⟨mGb_refl, rfl⟩
theorem mGc_tr {u : aT} (h : mGc c u t) (g : mGc c t s) : mGc c u s := ⟨mGb_tr h.1 g.1, h.2.trans g.2⟩
theorem mGc_pI {k0 i0 : Nat} {v : Int32} (hk : (c ≤ k0 ∧ k0 < c + 22) ∧ ¬ (k0 = c ∧ i0 = 33)) (h : mGc c t s) : mGc c (pI t k0 i0 v) s := ⟨mGb_pI hk.1 h.1, by rw [gI_pI, if_neg (by omega)]; exact h.2⟩
theorem mGc_J {p : jP} (h : mGc c t s) : mGc c (mJ c p t) s := ⟨mGb_J h.1, by rw [mJ_f (by omega)]; exact h.2⟩
theorem mGc_S {q : kP} (h : mGc c t s) : mGc c (mS c q t) s := ⟨mGb_S h.1, by rw [mS_f (by omega)]; exact h.2⟩
theorem mGc_U (h : mGc c t s) : mGc c (pU t) (pU s) := ⟨mGb_U h.1, h.2⟩
def mRu (c : Nat) (s : aT) (n : Nat) (F : aRs) (x : Except (Nat × Nat) (jP × kP × Nat)) : Prop := match x with
  | .ok (p, q, x) => F = rV (mS c q (pI (mJ c (jTo p n) (pI s c 6 (nI p.1))) c 31 (nI x)))
  | .error (k, e) => ∃ t, F = rT 0 t ∧ gI t c 4 = nI k ∧ gI t c 5 = nI e ∧ mGc c t (pU s)
theorem Mt_rau (hc : isT c) (h : mR0 c s B n) (d : Nat) : mRu c s n (fMt_readAll (d + 57) c s) (kTx B n) := by
  obtain ⟨hB, ⟨h2, h3, h7, h15⟩, ⟨h16, h17, h24, h29⟩, hrow⟩ := h
  have hn := hB.1
  have hg0 : jGd n (jTo jP0 (jSk B n 0)) := ⟨⟨(jSk_le (by omega)).2, Nat.zero_le _, Nat.zero_le _⟩, fun i hi => absurd hi (Nat.not_lt_zero _), fun u _ h => absurd h (Nat.not_lt_zero _)⟩
  have hv := Mt_val hc 24 d s (jTo jP0 (jSk B n 0)) (Nat.le_refl _) hB h3 hg0
  rw [show 2 * 24 + 8 + d = d + 56 by omega] at hv
  have go : ∀ r, cG (fMt_value (d + 56) c (mJ c (jTo jP0 (jSk B n 0)) s)) (kI fun v3 s2 => wI s2 c 6 (gI s2 c 2) (fun s4 => cG (fMt_blanks (d + 56) c s4) (kV fun s5 => if ¬ gI s5 c 2 = gI s5 c 1 then fMt_readAll_20 (d + 57) c v3 0 s5 else fMt_readAll_20 (d + 57) c v3 1 s5))) = some r → fMt_readAll (d + 57) c s = some r := by
    intro r hr
    refine eMt_readAll (d + 56) c _ hc _ ?_
    have hbl := Mt_blanks (p := jP0) hc hB n 0 (by omega) (by omega) (d + 55)
    have e0 : mJ c (jTo jP0 0) s = s := mJ_0 h2 h7 h15
    rw [e0] at hbl
    rw [hbl, cG_V]
    exact hr
  unfold kTx jRd
  cases hjv : jV B n 24 (jTo jP0 (jSk B n 0)) with
  | error e =>
    rw [hjv] at hv
    obtain ⟨p1, x, hv⟩ := hv
    refine ⟨_, go _ (by rw [hv, cG_T]; rfl), ?_, ?_, ?_⟩
    · unfold mX
      rw [mJ_f (by omega)]
      show gI (pI (pI (pI s c 3 x) c 4 1) c 5 (nI e)) c 4 = nI 1
      rw [gI_pI, if_neg (by omega), gI_pI, if_pos ⟨rfl, rfl⟩]
      rfl
    · unfold mX
      rw [mJ_f (by omega)]
      show gI (pI (pI (pI s c 3 x) c 4 1) c 5 (nI e)) c 5 = nI e
      rw [gI_pI, if_pos ⟨rfl, rfl⟩]
    · exact mGc_J (mGc_U (mGc_pI (by omega) (mGc_pI (by omega) (mGc_pI (by omega) mGc_refl))))
  | ok pv =>
    obtain ⟨p, v⟩ := pv
    rw [hjv] at hv
    have hv : fMt_value (d + 56) c (mJ c (jTo jP0 (jSk B n 0)) s) = rI (nI v) (mJ c p s) := hv
    have hg := jGd_v hg0 hjv
    have hpn : p.1 ≤ n := hg.1.1
    have hB1 : mB0 c (pI s c 6 (nI p.1)) B n := mB0_pI hB (by omega)
    have hbl := Mt_blanks (p := p) hc hB1 n p.1 (by omega) hpn (d + 55)
    have hsk := jSk_le (B := B) hpn
    have go2 : ∀ r, (if ¬ jSk B n p.1 = n then fMt_readAll_20 (d + 57) c (nI v) 0 (mJ c (jTo p (jSk B n p.1)) (pI s c 6 (nI p.1))) else fMt_readAll_20 (d + 57) c (nI v) 1 (mJ c (jTo p (jSk B n p.1)) (pI s c 6 (nI p.1)))) = some r → fMt_readAll (d + 57) c s = some r := by
      intro r hr
      refine go _ ?_
      rw [hv, cG_I, wI_eq, mJ_at, mJ_pI (by omega)]
      have e : mJ c (jTo p p.1) (pI s c 6 (nI p.1)) = mJ c p (pI s c 6 (nI p.1)) := rfl
      rw [e] at hbl
      rw [hbl, cG_V, mJ_at, mJ_f (by omega), hB1.2.1]
      show (if ¬ nI (jSk B n p.1) = nI n then _ else _) = _
      by_cases hend : jSk B n p.1 = n
      · rw [if_neg (fun h => h hend)] at hr
        rw [if_neg (fun h => h (congrArg nI hend))]
        exact hr
      · rw [if_pos hend] at hr
        rw [if_pos (fun h => hend (by rw [nI_eqE (by omega) (by omega)] at h; exact h))]
        exact hr
    simp only
    by_cases hend : jSk B n p.1 = n
    · have hrd : jRd B n = .ok (p, v, p.1) := by
        unfold jRd
        rw [hjv]
        simp only
        rw [if_pos hend]
      obtain ⟨hv0, _, hpe, hG⟩ := jRd_gt hn hrd
      rw [if_pos hend]
      rw [if_neg (fun h => h hend), hend, hv0] at go2
      simp only
      have hT : mT c (mJ c (jTo p n) (pI s c 6 (nI p.1))) p.2.2.2.1 p.2.2.2.2 p.2.1 p.2.2.1 := mT_J (p := jTo p n)
      have eS : mS c kP0 (mJ c (jTo p n) (pI s c 6 (nI p.1))) = mJ c (jTo p n) (pI s c 6 (nI p.1)) := by
        have f : ∀ f, f ≠ 2 ∧ f ≠ 7 ∧ f ≠ 15 ∧ f ≠ 6 → gI (mJ c (jTo p n) (pI s c 6 (nI p.1))) c f = gI s c f := fun f hf => by rw [mJ_f (by omega), gI_pI, if_neg (by omega)]
        refine mS_0 (by rw [f 16 (by omega)]; exact h16) (by rw [f 17 (by omega)]; exact h17) (by rw [f 24 (by omega)]; exact h24) (by rw [f 29 (by omega)]; exact h29) (fun i hi => ?_)
        rw [mJ_far (by omega), mJ_far (by omega), mJ_far (by omega), gI_pI, if_neg (by omega), gI_pI, if_neg (by omega), gI_pI, if_neg (by omega)]
        exact hrow i hi
      have hgb : mGc c (mJ c (jTo p n) (pI s c 6 (nI p.1))) s := mGc_J (mGc_pI (by omega) mGc_refl)
      obtain ⟨u, hu⟩ : ∃ u, u = mJ c (jTo p n) (pI s c 6 (nI p.1)) := ⟨_, rfl⟩
      rw [← hu] at hT eS hgb go2
      have go3 : ∀ r, cG (fMt_schemaOf (d + 56) c (nI 0) 0 0 u) (kI fun v3 s2 => wI s2 c 31 v3 (fun s4 => fMt_readAll_33 (d + 57) c 0 s4)) = some r → fMt_readAll (d + 57) c s = some r := by
        intro r hr
        refine go2 _ (eMt_readAll_20 (d + 56) c _ _ _ hc _ ?_)
        rw [Mt_need1 (d + 55) hc, cG_V]
        exact hr
      obtain ⟨hvb, hw⟩ := jGt_0 hG
      have hso := Mt_so hc hT hG 16 (Nat.le_refl _) d 0 false kP0 ⟨kIv_0, hvb, by show 2 * 0 + _ ≤ _; omega, Nat.le_refl _⟩
      rw [show 3 * 16 + d + 8 = d + 56 by omega, eS, show (if false = true then (1 : Int32) else 0) = 0 from rfl, show 16 - 16 = 0 from rfl] at hso
      have hso : kRm c u (fMt_schemaOf (d + 56) c (nI 0) 0 0 u) (kSo p.2.2.2.1 p.2.2.2.2 16 0 false kP0) := hso
      have err : ∀ (q' : kP) (k e : Nat) (w : aT), mGc c w s → gI (mS c q' (mFt c w (nI k) (nI e))) c 4 = nI k ∧ gI (mS c q' (mFt c w (nI k) (nI e))) c 5 = nI e ∧ mGc c (mS c q' (mFt c w (nI k) (nI e))) (pU s) := by
        intro q' k e w hw
        refine ⟨?_, ?_, mGc_S (mGc_U (mGc_pI (by omega) (mGc_pI (by omega) hw)))⟩
        · rw [mS_f (by omega)]
          show gI (pI (pI w c 4 (nI k)) c 5 (nI e)) c 4 = nI k
          rw [gI_pI, if_neg (by omega), gI_pI, if_pos ⟨rfl, rfl⟩]
        · rw [mS_f (by omega)]
          show gI (pI (pI w c 4 (nI k)) c 5 (nI e)) c 5 = nI e
          rw [gI_pI, if_pos ⟨rfl, rfl⟩]
      unfold kSr
      cases hk : kSo p.2.2.2.1 p.2.2.2.2 16 0 false kP0 with
      | error x =>
        obtain ⟨k, e⟩ := x
        rw [hk] at hso
        obtain ⟨q', hF⟩ := hso
        exact ⟨_, go3 _ (by rw [hF, cG_T]; rfl), err q' k e u hgb⟩
      | ok x =>
        obtain ⟨q, x⟩ := x
        rw [hk] at hso
        have hso : fMt_schemaOf (d + 56) c (nI 0) 0 0 u = rI (nI x) (mS c q u) := hso
        obtain ⟨g1, g2, g3, g4, g5, g6, g7, g8, g9, g10, g11, g12⟩ := kGd_of hG hk
        have h33 := Mt_ra33 hc (mT_pI (f := 31) (v := nI x) hT) hG g1 (by omega) g2 g4 (by omega) (d + 4) (q.1 4) 0 (by omega)
        rw [show d + 4 + 53 = d + 57 by omega] at h33
        have go4 : ∀ r, fMt_readAll_33 (d + 57) c (nI 0) (mS c q (pI u c 31 (nI x))) = some r → fMt_readAll (d + 57) c s = some r := by
          intro r hr
          refine go3 _ ?_
          rw [hso, cG_I, wI_eq, mS_pI (by omega)]
          exact hr
        simp only
        by_cases hd : kDk p.2.2.2.1 p.2.2.2.2 q (q.1 4) 0 = 0
        · rw [if_pos hd]
          rw [hd] at h33
          subst hu
          exact go4 _ h33
        · rw [if_neg hd]
          unfold mFr at h33
          rw [if_neg hd] at h33
          exact ⟨_, go4 _ h33, err q 12 _ (pI u c 31 (nI x)) (mGc_pI (by omega) hgb)⟩
    · rw [if_neg hend]
      rw [if_pos hend] at go2
      refine ⟨mJ c (jTo p (jSk B n p.1)) (pU (pI (pI (pI s c 6 (nI p.1)) c 4 1) c 5 (nI (jSk B n p.1)))), go2 _ (eMt_readAll_20 (d + 56) c _ _ _ hc _ ?_), ?_, ?_, mGc_J (mGc_U (mGc_pI (by omega) (mGc_pI (by omega) (mGc_pI (by omega) mGc_refl))))⟩
      · rw [mJ_at, Mt_need0 (d + 55) hc, cG_T]
        rfl
      · rw [mJ_f (by omega)]
        show gI (pI (pI (pI s c 6 (nI p.1)) c 4 1) c 5 _) c 4 = nI 1
        rw [gI_pI, if_neg (by omega), gI_pI, if_pos ⟨rfl, rfl⟩]
        rfl
      · rw [mJ_f (by omega)]
        show gI (pI (pI (pI s c 6 (nI p.1)) c 4 1) c 5 _) c 5 = _
        rw [gI_pI, if_pos ⟨rfl, rfl⟩]
/-- a text with a fault -/
theorem Mt_rdF (hc : isT c) (hn : n ≤ 4096) {a fr : Nat} (ha : a < c ∨ c + 22 ≤ a) (hl : fr + n ≤ alen a) (hla : alen a < 2147483648) (hA : ∀ i, i < n → gI s a (fr + i) = mI (B i)) (hB : ∀ i, B i < 256) (d : Nat) {k e : Nat} (hk : kTx B n = .error (k, e)) : ∃ t, fMt_read (d + 58) c a (nI fr) (nI n) s = rI (nI k) t ∧ gI t c 4 = nI k ∧ gI t c 5 = nI e ∧ gI t c 33 = 0 ∧ mGb c t (pU s) := by
  have hra := Mt_rau (s := mRd c B n s) hc (mRd_0 hn hB) d
  have go : ∀ r, cC (fMt_readAll (d + 57) c (mRd c B n s)) (kV fun s7 => fMt_read_83 (d + 58) c 0 s7) (fun s7 => rI (gI s7 c 4) s7) = some r → fMt_read (d + 58) c a (nI fr) (nI n) s = some r := by
    intro r hr
    refine eMt_read (d + 57) c a _ _ _ hc _ ?_
    have h2 := Mt_read2 (s := s) hc hn ha hl hla hA hB (d + 57) n 0 r (by omega) hr
    rw [mR1_0] at h2
    exact h2
  rw [hk] at hra
  obtain ⟨t, h1, h2, h3, h4⟩ := hra
  refine ⟨t, go _ ?_, h2, h3, ?_, mGb_tr h4.1 (mGb_U mRd_gb)⟩
  · rw [h1, cC_T, h2]
    rfl
  · rw [h4.2]
    show gI (mRd c B n s) c 33 = 0
    unfold mRd
    rw [mRb_I, if_pos rfl]
    rfl
end
