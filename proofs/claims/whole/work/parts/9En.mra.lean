/-! PURE: a whole text: its rows, its schemas; or what is wrong, and where -/
def kTx (B : Nat → Nat) (n : Nat) : Except (Nat × Nat) (jP × kP × Nat) :=
  match jRd B n with
  | .error e => .error (1, e)
  | .ok (p, _, _) => match kSr p.2.2.2.1 p.2.2.2.2 with
    | .error x => .error x
    | .ok (q, x) => .ok (p, q, x)
/-! the reference's Text: a whole text -/
/-- but for one Text's cells, the same -/
def mGb (c : Nat) (t s : aT) : Prop := (∀ k i, k < c ∨ c + 22 ≤ k → gI t k i = gI s k i ∧ gL t k i = gL s k i) ∧ t.2.2 = s.2.2
section
variable {c : Nat} {s t : aT} {B : Nat → Nat} {n : Nat}
theorem mGb_refl : mGb c s s := ⟨fun _ _ _ => ⟨rfl, rfl⟩, rfl⟩
theorem mGb_tr {u : aT} (h : mGb c u t) (g : mGb c t s) : mGb c u s := ⟨fun k i hk => ⟨((h.1 k i hk).1).trans (g.1 k i hk).1, ((h.1 k i hk).2).trans (g.1 k i hk).2⟩, h.2.trans g.2⟩
theorem mGb_pI {k0 i0 : Nat} {v : Int32} (hk : c ≤ k0 ∧ k0 < c + 22) (h : mGb c t s) : mGb c (pI t k0 i0 v) s := ⟨fun k i hk' => ⟨by rw [gI_pI, if_neg (by omega)]; exact (h.1 k i hk').1, (h.1 k i hk').2⟩, h.2⟩
theorem mGb_J {p : jP} (h : mGb c t s) : mGb c (mJ c p t) s := ⟨fun k i hk' => ⟨by rw [mJ_far (by omega)]; exact (h.1 k i hk').1, by rw [mJ_farL (by omega)]; exact (h.1 k i hk').2⟩, h.2⟩
theorem mGb_S {q : kP} (h : mGb c t s) : mGb c (mS c q t) s := ⟨fun k i hk' => ⟨by rw [mS_out (by omega)]; exact (h.1 k i hk').1, (h.1 k i hk').2⟩, h.2⟩
theorem mGb_U (h : mGb c t s) : mGb c (pU t) (pU s) := by
  refine ⟨h.1, ?_⟩
  have h2 := h.2
  show (t.2.2.1, t.2.2.2 + 1) = (s.2.2.1, s.2.2.2 + 1)
  rw [h2]
/-- where a reading begins -/
def mR0 (c : Nat) (s : aT) (B : Nat → Nat) (n : Nat) : Prop := mB0 c s B n ∧ (gI s c 2 = 0 ∧ gI s c 3 = 0 ∧ gI s c 7 = 0 ∧ gI s c 15 = 0) ∧ (gI s c 16 = 6 ∧ gI s c 17 = 0 ∧ gI s c 24 = 0 ∧ gI s c 29 = 0) ∧ ∀ i, i < 6 → gI s (c + 9) i = nI i ∧ gI s (c + 10) i = -1 ∧ gI s (c + 12) i = -1
theorem mJ_0 (h2 : gI s c 2 = 0) (h7 : gI s c 7 = 0) (h15 : gI s c 15 = 0) : mJ c jP0 s = s := by
  refine aT_ext (fun k i => ?_) (fun k i => ?_) rfl
  · unfold gI at *
    simp only [mJ, jP0]
    have e4 : ¬ i < 0 := by omega
    simp only [if_neg e4]
    by_cases hk : k = c
    · subst hk
      rw [if_pos rfl]
      by_cases i2 : i = 2
      · rw [if_pos i2, i2, h2]; rfl
      · rw [if_neg i2]
        by_cases i7 : i = 7
        · rw [if_pos i7, i7, h7]; rfl
        · rw [if_neg i7]
          by_cases i15 : i = 15
          · rw [if_pos i15, i15, h15]; rfl
          · rw [if_neg i15]
    · rw [if_neg hk]
      repeat' split
      all_goals rfl
  · by_cases hk : k = c + 4
    · show (if k = c + 4 then (if i < 0 then _ else s.2.1 k i) else s.2.1 k i) = s.2.1 k i
      rw [if_pos hk, if_neg (by omega)]
    · exact mJ_farL hk
theorem mS_0 (h16 : gI s c 16 = 6) (h17 : gI s c 17 = 0) (h24 : gI s c 24 = 0) (h29 : gI s c 29 = 0) (h : ∀ i, i < 6 → gI s (c + 9) i = nI i ∧ gI s (c + 10) i = -1 ∧ gI s (c + 12) i = -1) : mS c kP0 s = s := by
  refine aT_ext (fun k i => ?_) (fun k i => rfl) rfl
  have c0 : kP0.1 0 = 0 := rfl
  have c1 : kP0.1 1 = 6 := rfl
  have c2 : kP0.1 2 = 0 := rfl
  have c4 : kP0.1 4 = 0 := rfl
  have e1 : ¬ (6 ≤ i ∧ i < 6) := by omega
  have e4 : ¬ i < 0 := by omega
  have r0 : kP0.2.1 0 i = i := rfl
  have r1 : kP0.2.1 1 i = 0 := rfl
  have r13 : kP0.2.1 13 i = 0 := rfl
  unfold gI at *
  simp only [mS, c0, c1, c2, c4, if_neg e1, if_neg e4, r0, r1, r13]
  by_cases hk : k = c
  · subst hk
    rw [if_pos rfl]
    by_cases i1 : i = 16
    · rw [if_pos i1, i1, h16]; rfl
    · rw [if_neg i1]
      by_cases i2 : i = 17
      · rw [if_pos i2, i2, h17]; rfl
      · rw [if_neg i2]
        by_cases i3 : i = 24
        · rw [if_pos i3, i3, h24]; rfl
        · rw [if_neg i3]
          by_cases i5 : i = 29
          · rw [if_pos i5, i5, h29]; rfl
          · rw [if_neg i5]
  · rw [if_neg hk]
    by_cases h6 : i < 6
    · obtain ⟨a1, a2, a3⟩ := h i h6
      simp only [if_pos h6]
      by_cases k9 : k = c + 9
      · rw [if_pos k9, k9, a1]
      · rw [if_neg k9]
        by_cases k10 : k = c + 10
        · rw [if_pos k10, k10, a2]; rfl
        · rw [if_neg k10]
          by_cases k11 : k = c + 11
          · rw [if_pos k11]
          · rw [if_neg k11]
            by_cases k12 : k = c + 12
            · rw [if_pos k12, k12, a3]; rfl
            · rw [if_neg k12]
              repeat' split
              all_goals rfl
    · simp only [if_neg h6]
      repeat' split
      all_goals rfl
theorem mT_J {p : jP} : mT c (mJ c p s) p.2.2.2.1 p.2.2.2.2 p.2.1 p.2.2.1 := by
  refine ⟨fun i hi => ⟨mJ_K hi, mJ_F hi, mJ_Z hi, mJ_I hi, mJ_X hi, ?_⟩, fun i hi => mJ_L hi⟩
  by_cases h2 : p.2.2.2.1 0 i = 2
  · rw [if_pos h2]; exact mJ_S hi h2
  · rw [if_neg h2]; exact mJ_N hi h2
theorem mT_pI {T : Nat → Nat → Nat} {N : Nat → Int} {m l f : Nat} {v : Int32} (h : mT c s T N m l) : mT c (pI s c f v) T N m l := by
  refine ⟨fun i hi => ?_, fun i hi => ?_⟩
  · have a := h.1 i hi
    have e : ∀ j, 1 ≤ j → gI (pI s c f v) (c + j) i = gI s (c + j) i := fun j hj => by rw [gI_pI, if_neg (by omega)]
    rw [e 2 (by omega), e 3 (by omega), e 5 (by omega), e 6 (by omega), e 7 (by omega)]
    exact a
  · rw [gI_pI, if_neg (by omega)]
    exact h.2 i hi
/-- what the reference's reading must have done -/
def mRt (c : Nat) (s : aT) (n : Nat) (F : aRs) (x : Except (Nat × Nat) (jP × kP × Nat)) : Prop := match x with
  | .ok (p, q, x) => F = rV (mS c q (pI (mJ c (jTo p n) (pI s c 6 (nI p.1))) c 31 (nI x)))
  | .error (k, e) => ∃ t, F = rT 0 t ∧ gI t c 4 = nI k ∧ gI t c 5 = nI e ∧ mGb c t (pU s)
theorem Mt_ra (hc : isT c) (h : mR0 c s B n) (d : Nat) : mRt c s n (fMt_readAll (d + 57) c s) (kTx B n) := by
  obtain ⟨hB, ⟨h2, h3, h7, h15⟩, ⟨h16, h17, h24, h29⟩, hrow⟩ := h
  have hn := hB.1
  have hg0 : jGd n (jTo jP0 (jSk B n 0)) := ⟨⟨(jSk_le (by omega)).2, Nat.zero_le _, Nat.zero_le _⟩, fun i hi => absurd hi (Nat.not_lt_zero _), fun u _ h => absurd h (Nat.not_lt_zero _)⟩
  have hv := Mt_val hc 24 d s (jTo jP0 (jSk B n 0)) (Nat.le_refl _) hB h3 hg0
  rw [show 2 * 24 + 8 + d = d + 56 by omega] at hv
  have go : ∀ r, cG (fMt_value (d + 56) c (mJ c (jTo jP0 (jSk B n 0)) s)) (kI fun v3 s2 => wI s2 c 6 (gI s2 c 2) (fun s4 => cG (fMt_blanks (d + 56) c s4) (kV fun s5 => if ¬ gI s5 c 2 = gI s5 c 1 then fMt_readAll_20 (d + 57) c v3 0 s5 else fMt_readAll_20 (d + 57) c v3 1 s5))) = some r → fMt_readAll (d + 57) c s = some r := by
    intro r hr
    refine eMt_readAll (d + 56) c _ hc _ ?_
    have hbl := Mt_blanks (p := jP0) hc hB n 0 (by omega) (by omega) (d + 55)
    have e0 : mJ c (jTo jP0 0) s = s := mJ_0 h2 h7 h15
    rw [e0] at hbl
    rw [hbl, cG_V]
    exact hr
  unfold kTx jRd
  cases hjv : jV B n 24 (jTo jP0 (jSk B n 0)) with
  | error e =>
    rw [hjv] at hv
    obtain ⟨p1, x, hv⟩ := hv
    refine ⟨_, go _ (by rw [hv, cG_T]; rfl), ?_, ?_, ?_⟩
    · unfold mX
      rw [mJ_f (by omega)]
      show gI (pI (pI (pI s c 3 x) c 4 1) c 5 (nI e)) c 4 = nI 1
      rw [gI_pI, if_neg (by omega), gI_pI, if_pos ⟨rfl, rfl⟩]
      rfl
    · unfold mX
      rw [mJ_f (by omega)]
      show gI (pI (pI (pI s c 3 x) c 4 1) c 5 (nI e)) c 5 = nI e
      rw [gI_pI, if_pos ⟨rfl, rfl⟩]
    · exact mGb_J (mGb_U (mGb_pI (by omega) (mGb_pI (by omega) (mGb_pI (by omega) mGb_refl))))
  | ok pv =>
    obtain ⟨p, v⟩ := pv
    rw [hjv] at hv
    have hv : fMt_value (d + 56) c (mJ c (jTo jP0 (jSk B n 0)) s) = rI (nI v) (mJ c p s) := hv
    have hg := jGd_v hg0 hjv
    have hpn : p.1 ≤ n := hg.1.1
    have hB1 : mB0 c (pI s c 6 (nI p.1)) B n := mB0_pI hB (by omega)
    have hbl := Mt_blanks (p := p) hc hB1 n p.1 (by omega) hpn (d + 55)
    have hsk := jSk_le (B := B) hpn
    have go2 : ∀ r, (if ¬ jSk B n p.1 = n then fMt_readAll_20 (d + 57) c (nI v) 0 (mJ c (jTo p (jSk B n p.1)) (pI s c 6 (nI p.1))) else fMt_readAll_20 (d + 57) c (nI v) 1 (mJ c (jTo p (jSk B n p.1)) (pI s c 6 (nI p.1)))) = some r → fMt_readAll (d + 57) c s = some r := by
      intro r hr
      refine go _ ?_
      rw [hv, cG_I, wI_eq, mJ_at, mJ_pI (by omega)]
      have e : mJ c (jTo p p.1) (pI s c 6 (nI p.1)) = mJ c p (pI s c 6 (nI p.1)) := rfl
      rw [e] at hbl
      rw [hbl, cG_V, mJ_at, mJ_f (by omega), hB1.2.1]
      show (if ¬ nI (jSk B n p.1) = nI n then _ else _) = _
      by_cases hend : jSk B n p.1 = n
      · rw [if_neg (fun h => h hend)] at hr
        rw [if_neg (fun h => h (congrArg nI hend))]
        exact hr
      · rw [if_pos hend] at hr
        rw [if_pos (fun h => hend (by rw [nI_eqE (by omega) (by omega)] at h; exact h))]
        exact hr
    simp only
    by_cases hend : jSk B n p.1 = n
    · have hrd : jRd B n = .ok (p, v, p.1) := by
        unfold jRd
        rw [hjv]
        simp only
        rw [if_pos hend]
      obtain ⟨hv0, _, hpe, hG⟩ := jRd_gt hn hrd
      rw [if_pos hend]
      rw [if_neg (fun h => h hend), hend, hv0] at go2
      simp only
      have hT : mT c (mJ c (jTo p n) (pI s c 6 (nI p.1))) p.2.2.2.1 p.2.2.2.2 p.2.1 p.2.2.1 := mT_J (p := jTo p n)
      have eS : mS c kP0 (mJ c (jTo p n) (pI s c 6 (nI p.1))) = mJ c (jTo p n) (pI s c 6 (nI p.1)) := by
        have f : ∀ f, f ≠ 2 ∧ f ≠ 7 ∧ f ≠ 15 ∧ f ≠ 6 → gI (mJ c (jTo p n) (pI s c 6 (nI p.1))) c f = gI s c f := fun f hf => by rw [mJ_f (by omega), gI_pI, if_neg (by omega)]
        refine mS_0 (by rw [f 16 (by omega)]; exact h16) (by rw [f 17 (by omega)]; exact h17) (by rw [f 24 (by omega)]; exact h24) (by rw [f 29 (by omega)]; exact h29) (fun i hi => ?_)
        rw [mJ_far (by omega), mJ_far (by omega), mJ_far (by omega), gI_pI, if_neg (by omega), gI_pI, if_neg (by omega), gI_pI, if_neg (by omega)]
        exact hrow i hi
      have hgb : mGb c (mJ c (jTo p n) (pI s c 6 (nI p.1))) s := mGb_J (mGb_pI (by omega) mGb_refl)
      obtain ⟨u, hu⟩ : ∃ u, u = mJ c (jTo p n) (pI s c 6 (nI p.1)) := ⟨_, rfl⟩
      rw [← hu] at hT eS hgb go2
      have go3 : ∀ r, cG (fMt_schemaOf (d + 56) c (nI 0) 0 0 u) (kI fun v3 s2 => wI s2 c 31 v3 (fun s4 => fMt_readAll_33 (d + 57) c 0 s4)) = some r → fMt_readAll (d + 57) c s = some r := by
        intro r hr
        refine go2 _ (eMt_readAll_20 (d + 56) c _ _ _ hc _ ?_)
        rw [Mt_need1 (d + 55) hc, cG_V]
        exact hr
      obtain ⟨hvb, hw⟩ := jGt_0 hG
      have hso := Mt_so hc hT hG 16 (Nat.le_refl _) d 0 false kP0 ⟨kIv_0, hvb, by show 2 * 0 + _ ≤ _; omega, Nat.le_refl _⟩
      rw [show 3 * 16 + d + 8 = d + 56 by omega, eS, show (if false = true then (1 : Int32) else 0) = 0 from rfl, show 16 - 16 = 0 from rfl] at hso
      have hso : kRm c u (fMt_schemaOf (d + 56) c (nI 0) 0 0 u) (kSo p.2.2.2.1 p.2.2.2.2 16 0 false kP0) := hso
      have err : ∀ (q' : kP) (k e : Nat) (w : aT), mGb c w s → gI (mS c q' (mFt c w (nI k) (nI e))) c 4 = nI k ∧ gI (mS c q' (mFt c w (nI k) (nI e))) c 5 = nI e ∧ mGb c (mS c q' (mFt c w (nI k) (nI e))) (pU s) := by
        intro q' k e w hw
        refine ⟨?_, ?_, mGb_S (mGb_U (mGb_pI (by omega) (mGb_pI (by omega) hw)))⟩
        · rw [mS_f (by omega)]
          show gI (pI (pI w c 4 (nI k)) c 5 (nI e)) c 4 = nI k
          rw [gI_pI, if_neg (by omega), gI_pI, if_pos ⟨rfl, rfl⟩]
        · rw [mS_f (by omega)]
          show gI (pI (pI w c 4 (nI k)) c 5 (nI e)) c 5 = nI e
          rw [gI_pI, if_pos ⟨rfl, rfl⟩]
      unfold kSr
      cases hk : kSo p.2.2.2.1 p.2.2.2.2 16 0 false kP0 with
      | error x =>
        obtain ⟨k, e⟩ := x
        rw [hk] at hso
        obtain ⟨q', hF⟩ := hso
        exact ⟨_, go3 _ (by rw [hF, cG_T]; rfl), err q' k e u hgb⟩
      | ok x =>
        obtain ⟨q, x⟩ := x
        rw [hk] at hso
        have hso : fMt_schemaOf (d + 56) c (nI 0) 0 0 u = rI (nI x) (mS c q u) := hso
        obtain ⟨g1, g2, g3, g4, g5, g6, g7, g8, g9, g10, g11, g12⟩ := kGd_of hG hk
        have h33 := Mt_ra33 hc (mT_pI (f := 31) (v := nI x) hT) hG g1 (by omega) g2 g4 (by omega) (d + 4) (q.1 4) 0 (by omega)
        rw [show d + 4 + 53 = d + 57 by omega] at h33
        have go4 : ∀ r, fMt_readAll_33 (d + 57) c (nI 0) (mS c q (pI u c 31 (nI x))) = some r → fMt_readAll (d + 57) c s = some r := by
          intro r hr
          refine go3 _ ?_
          rw [hso, cG_I, wI_eq, mS_pI (by omega)]
          exact hr
        simp only
        by_cases hd : kDk p.2.2.2.1 p.2.2.2.2 q (q.1 4) 0 = 0
        · rw [if_pos hd]
          rw [hd] at h33
          subst hu
          exact go4 _ h33
        · rw [if_neg hd]
          unfold mFr at h33
          rw [if_neg hd] at h33
          exact ⟨_, go4 _ h33, err q 12 _ (pI u c 31 (nI x)) (mGb_pI (by omega) hgb)⟩
    · rw [if_neg hend]
      rw [if_pos hend] at go2
      refine ⟨mJ c (jTo p (jSk B n p.1)) (pU (pI (pI (pI s c 6 (nI p.1)) c 4 1) c 5 (nI (jSk B n p.1)))), go2 _ (eMt_readAll_20 (d + 56) c _ _ _ hc _ ?_), ?_, ?_, mGb_J (mGb_U (mGb_pI (by omega) (mGb_pI (by omega) (mGb_pI (by omega) mGb_refl))))⟩
      · rw [mJ_at, Mt_need0 (d + 55) hc, cG_T]
        rfl
      · rw [mJ_f (by omega)]
        show gI (pI (pI (pI s c 6 (nI p.1)) c 4 1) c 5 _) c 4 = nI 1
        rw [gI_pI, if_neg (by omega), gI_pI, if_pos ⟨rfl, rfl⟩]
        rfl
      · rw [mJ_f (by omega)]
        show gI (pI (pI (pI s c 6 (nI p.1)) c 4 1) c 5 _) c 5 = _
        rw [gI_pI, if_pos ⟨rfl, rfl⟩]
end
