/-! PURE: the schema of a whole text, with its defaults looked at -/
def kSr (T : Nat → Nat → Nat) (N : Nat → Int) : kE :=
  match kSo T N 16 0 false kP0 with
  | .error e => .error e
  | .ok (q, x) => if kDk T N q (q.1 4) 0 = 0 then .ok (q, x) else .error (12, T 1 (kDk T N q (q.1 4) 0 - 1))
/-- what is known about a text's schema -/
def kGd (T : Nat → Nat → Nat) (N : Nat → Int) (m n : Nat) (q : kP) (x : Nat) : Prop := kIv T m q ∧ kCd q ∧ kDn T q ∧ kWi T N m q ∧ x < q.1 1 ∧ kOc q (kTt q 16) x 6 (q.1 1) ∧ 2 * q.1 2 + 2 ≤ n + 1 ∧ 4 * q.1 3 + 2 ≤ n + 1 ∧ q.1 6 + q.1 7 + 2 ≤ 2 * (n + 1) ∧ q.1 4 < q.1 0 ∧ q.1 5 ≤ q.1 4 ∧ q.1 0 ≤ 128
section
variable {T : Nat → Nat → Nat} {N : Nat → Int} {m l n : Nat}
theorem jGt_0 (hG : jGt T N m l n) : jVb T N m 0 ∧ kWv T 0 ≤ n + 1 := by
  obtain ⟨_, _, _, _, h, hw⟩ := hG
  obtain ⟨hv, he⟩ := jVb_of (Nat.le_refl _) h (Nat.le_refl _)
  refine ⟨hv, ?_⟩
  unfold kWv
  rw [← he]
  omega
theorem kGd_of (hG : jGt T N m l n) {q : kP} {x : Nat} (h : kSo T N 16 0 false kP0 = .ok (q, x)) : kGd T N m n q x := by
  obtain ⟨hv, hw⟩ := jGt_0 hG
  have hok := (kSo_ok 16).1 _ _ _ _ _ kIv_0 hv h
  have htt := kSo_tt 16 _ _ _ _ _ kIv_0 hv h
  have hwi := kSo_w 16 _ _ _ _ _ kIv_0 hv kWi_0 h
  have hdn := kSo_d 16 _ _ _ _ _ kIv_0 hv kDn_0 h
  obtain ⟨o1, o2, o3, o4, o5, o6, o7, o8, o9⟩ := hok
  have c0 : (kP0.1 0 = 0 ∧ kP0.1 1 = 6 ∧ kP0.1 2 = 0) ∧ kP0.1 3 = 0 ∧ kP0.1 4 = 0 ∧ kP0.1 5 = 0 ∧ kP0.1 6 = 0 ∧ kP0.1 7 = 0 := ⟨⟨rfl, rfl, rfl⟩, rfl, rfl, rfl, rfl, rfl⟩
  have o7' : 4 * q.1 3 + 2 ≤ 4 * kP0.1 3 + kWv T 0 := by
    split at o7 <;> omega
  have h1 := o1.1
  have ho : kOc q (kTt q 16) x 6 (q.1 1) := by
    have := htt.1
    rw [c0.1.2.1] at this
    exact this
  have hcd : kCd q := by
    intro s h6 hs
    rcases ho with ⟨_, h, _⟩ | ⟨_, h⟩
    · omega
    · exact kTt_cd 16 _ _ h s h6 hs
  exact ⟨o1, hcd, hdn, hwi, o3, ho, by omega, by omega, by omega, by omega, by omega, by omega⟩
end
/-! the lake's SchemaReader: a whole text's schema -/
section
variable {b pb qb : Nat} {s : aT} {T : Nat → Nat → Nat} {N : Nat → Int} {m l n : Nat}
theorem lT_fr {s' : aT} (h : ∀ k i, 14 ≤ k → k ≤ 21 → gI s' k i = gI s k i) (hL : ∀ i, gL s' 19 i = gL s 19 i) (hT : lT s T N m l) : lT s' T N m l := by
  obtain ⟨h1, h2, h3⟩ := hT
  refine ⟨fun i hi => ?_, fun i hi => ?_, ?_⟩
  · rw [h 14 _ (by omega) (by omega), h 15 _ (by omega) (by omega), h 16 _ (by omega) (by omega), h 17 _ (by omega) (by omega), h 18 _ (by omega) (by omega), hL]
    exact h1 i hi
  · rw [h 21 _ (by omega) (by omega)]
    exact h2 i hi
  · rw [h 20 _ (by omega) (by omega)]
    exact h3
/-- where a reading begins -/
def lO (b pb qb : Nat) (s : aT) : aT := pI (pI (pI (pI (pI (pI (pI s 22 11 (nI b)) 22 16 (nI pb)) 22 17 (nI qb)) 38 4 0) 37 5 0) 37 0 0) 37 1 (-1)
theorem lS_0 (hb : gI s 22 14 = nI b) (hpb : gI s 22 15 = nI pb) (hqb : gI s 32 1 = nI qb) (h5 : gI s 37 5 = 0) (h4 : gI s 38 4 = 0) : lS b pb qb kP0 s = s := by
  refine aT_ext (fun k i => ?_) (fun k i => rfl) rfl
  have c0 : kP0.1 0 = 0 := rfl
  have c1 : kP0.1 1 = 6 := rfl
  have c3 : kP0.1 3 = 0 := rfl
  have c5 : kP0.1 5 = 0 := rfl
  have c6 : kP0.1 6 = 0 := rfl
  have e1 : ¬ (b ≤ i ∧ i < b + (6 - 6)) := by omega
  have e2 : ¬ (pb ≤ i ∧ i < pb + 0) := by omega
  have e3 : ¬ (qb ≤ i ∧ i < qb + 0) := by omega
  have e4 : ¬ i < 0 := by omega
  unfold gI at *
  simp only [lS, c0, c1, c3, c5, c6, if_neg e1, if_neg e2, if_neg e3, if_neg e4]
  by_cases k22 : k = 22
  · subst k22
    rw [if_pos rfl]
    by_cases i1 : i = 14
    · rw [if_pos i1, i1, hb]; rfl
    · rw [if_neg i1]
      by_cases i2 : i = 15
      · rw [if_pos i2, i2, hpb]; rfl
      · rw [if_neg i2]
  · rw [if_neg k22]
    by_cases k32 : k = 32
    · subst k32
      rw [if_pos rfl]
      by_cases i1 : i = 1
      · rw [if_pos i1, i1, hqb]; rfl
      · rw [if_neg i1]
    · rw [if_neg k32]
      by_cases k37 : k = 37
      · subst k37
        rw [if_pos rfl]
        by_cases i1 : i = 5
        · rw [if_pos i1, i1, h5]; rfl
        · rw [if_neg i1]
      · rw [if_neg k37]
        by_cases k38 : k = 38
        · subst k38
          rw [if_pos rfl]
          by_cases i1 : i = 4
          · rw [if_pos i1, i1, h4]; rfl
          · rw [if_neg i1]
        · rw [if_neg k38]
          repeat' split
          all_goals rfl
/-- what the lake's reading must have done -/
def lRt (b pb qb : Nat) (s : aT) (T : Nat → Nat → Nat) (N : Nat → Int) (F : aRs) (x : kE) : Prop := match x with
  | .ok (q, v) => F = rI (nI (lo b v)) (lS b pb qb (kTd T N q (q.1 4) 0 q) s)
  | .error (k, e) => ∃ t, F = rI (-1) t ∧ lGb b pb qb t (lF s (nI k) (nI e))
theorem Sr_rs (d : Nat) (hT : lT s T N m l) (hG : jGt T N m l n) (h8 : gI s 13 8 = nI 0) (hb : gI s 22 14 = nI b) (hpb : gI s 22 15 = nI pb) (hqb : gI s 32 1 = nI qb) (h6 : 6 ≤ b) (hb2 : b + 128 ≤ 5254) (h23 : ∀ t, t < 6 → gI s 23 t = nI t) (hpl : 2 * pb + (n + 1) ≤ 20226) (hql : qb + 2 * (n + 1) ≤ 72704) : lRt b pb qb (lO b pb qb s) T N (fSr_readSchema (d + 89) s) (kSr T N) := by
  have hm := hG.1
  obtain ⟨hv, hw⟩ := jGt_0 hG
  have e14 : ∀ k i, ¬ (k = 22 ∧ (i = 11 ∨ i = 16 ∨ i = 17) ∨ k = 38 ∧ i = 4 ∨ k = 37 ∧ (i = 5 ∨ i = 0 ∨ i = 1)) → gI (lO b pb qb s) k i = gI s k i := by
    intro k i h
    unfold lO
    simp only [gI_pI]
    rw [if_neg (by omega), if_neg (by omega), if_neg (by omega), if_neg (by omega), if_neg (by omega), if_neg (by omega), if_neg (by omega)]
  have hT0 : lT (lO b pb qb s) T N m l := lT_fr (fun k i h1 h2 => e14 k i (by omega)) (fun i => rfl) hT
  have hC : lCx b pb qb (lO b pb qb s) := ⟨h6, hb2, by unfold lO; simp only [gI_pI]; simp, fun t ht => by rw [e14 23 t (by omega)]; exact h23 t ht, by omega, by omega⟩
  have e0 : lS b pb qb kP0 (lO b pb qb s) = lO b pb qb s := lS_0 (by rw [e14 22 14 (by omega)]; exact hb) (by rw [e14 22 15 (by omega)]; exact hpb) (by rw [e14 32 1 (by omega)]; exact hqb) (by unfold lO; simp only [gI_pI]; simp) (by unfold lO; simp only [gI_pI]; simp)
  have hopen : fSc_open (d + 88) s = rV (pI (pI (pI s 22 11 (nI b)) 22 16 (nI pb)) 22 17 (nI qb)) := by
    refine eSc_open (d + 88) _ _ ?_
    simp only [wI_eq, gI_pI]
    rw [if_neg (by omega), if_neg (by omega), if_neg (by omega), hb, hpb, hqb]
    rfl
  have hfor : ∀ t, fDf_forget (d + 88) t = rV (pI t 38 4 0) := fun t => eDf_forget (d + 88) _ _ rfl
  have h8' : gI (lO b pb qb s) 13 8 = nI 0 := by rw [e14 13 8 (by omega)]; exact h8
  have go : ∀ r, cG (fSr_schemaOf (d + 88) (nI 0) (nI 0) 0 (lO b pb qb s)) (kI fun v7 s6 => if ¬ v7 = (-1) then cG (fDf_take (d + 88) s6) (kI fun v9 s8 => if ¬ v9 = (-1) then cG (fSr_fail (d + 88) 12 v9 s8) (kI fun v11 s10 => rI v11 s10) else rI v7 s8) else rI (-1) s6) = some r → fSr_readSchema (d + 89) s = some r := by
    intro r hr
    refine eSr_readSchema (d + 88) _ _ ?_
    rw [hopen, cG_V, hfor, cG_V, wI_eq, wI_eq, wI_eq]
    have e : pI (pI (pI (pI (pI (pI (pI s 22 11 (nI b)) 22 16 (nI pb)) 22 17 (nI qb)) 38 4 0) 37 5 0) 37 0 0) 37 1 (-1) = lO b pb qb s := rfl
    rw [e, h8', if_pos (nI_ne (by omega))]
    exact hr
  have hso := Sr_so hC hT0 hG 16 (Nat.le_refl _) d 0 false kP0 ⟨kIv_0, hv, by show 2 * (pb + 0) + _ ≤ _; omega, by show qb + 0 + 0 + _ ≤ _; omega, Nat.le_refl _, Nat.le_refl _⟩
  have ef : 5 * 16 + d + 8 = d + 88 := by omega
  rw [ef, e0, show (if false = true then (1 : Int32) else 0) = 0 from rfl, show 16 - 16 = 0 from rfl] at hso
  unfold kSr
  cases hk : kSo T N 16 0 false kP0 with
  | error x =>
    obtain ⟨k, e⟩ := x
    rw [hk] at hso
    obtain ⟨t, ht, hg⟩ := hso
    refine ⟨t, go _ ?_, hg⟩
    rw [ht, cG_I, if_neg (fun h => h rfl)]
    rfl
  | ok x =>
    obtain ⟨q, x⟩ := x
    rw [hk] at hso
    have hso : fSr_schemaOf (d + 88) (nI 0) (nI 0) 0 (lO b pb qb s) = rI (nI (lo b x)) (lS b pb qb q (lO b pb qb s)) := hso
    obtain ⟨g1, g2, g3, g4, g5, g6, g7, g8, g9, g10, g11, g12⟩ := kGd_of hG hk
    obtain ⟨g, z, h0, h1, h2⟩ := g4
    have hn := g1.1
    have hlx := lo_lt hC (t := x) (by omega)
    have htk := Df_tk hC hT0 hG g1 g2 g3 (by omega) (by omega) (by omega) h1 h2 (d + 30) (q.1 4) 0 q (by omega) (by omega) (by omega) (kSq_refl q) g1 (by omega)
    rw [h0.1, show d + 30 + 58 = d + 88 by omega] at htk
    have hgo2 : ∀ r, cG (fDf_take_2 (d + 88) (nI 0) (lS b pb qb q (lO b pb qb s))) (kI fun v9 s8 => if ¬ v9 = (-1) then cG (fSr_fail (d + 88) 12 v9 s8) (kI fun v11 s10 => rI v11 s10) else rI (nI (lo b x)) s8) = some r → fSr_readSchema (d + 89) s = some r := by
      intro r hr
      refine go _ ?_
      have ht : ∀ y, fDf_take_2 (d + 88) (nI 0) (lS b pb qb q (lO b pb qb s)) = some y → fDf_take (d + 88) (lS b pb qb q (lO b pb qb s)) = some y := fun y hy => eDf_take (d + 87) _ _ hy
      rw [hso, cG_I, if_pos (nI_ne (by omega))]
      cases hy : fDf_take_2 (d + 88) (nI 0) (lS b pb qb q (lO b pb qb s)) with
      | none => rw [hy] at hr; cases hr
      | some y =>
        rw [hy] at hr
        rw [ht y hy]
        exact hr
    simp only
    by_cases hd : kDk T N q (q.1 4) 0 = 0
    · rw [if_pos hd]
      obtain ⟨t1, _, _, _⟩ := htk.1 hd
      refine hgo2 _ ?_
      rw [t1, cG_I, if_neg (fun h => h rfl)]
      rfl
    · rw [if_neg hd]
      obtain ⟨t0, q', t1⟩ := htk.2 hd
      refine ⟨_, hgo2 _ ?_, lGb_S (q := q')⟩
      rw [t1, cG_I, if_pos (nI_ne (by omega)), Sr_fail _ hT0 hG (by omega), cG_I]
      rfl
end
