/-! the lake's Defaults: all defaults, one after the other -/
/-- one default: its place, its letters, how many -/
def kTs (T : Nat → Nat → Nat) (N : Nat → Int) (q0 : kP) (p v x : Nat) (q : kP) : kP := kQ (kPb (kWt T N q0 24 v x) (kQ q 32 p (q.1 6 + 1))) 33 p (kWt T N q0 24 v x).length
def kTd (T : Nat → Nat → Nat) (N : Nat → Int) (q0 : kP) : Nat → Nat → kP → kP
  | 0, _, q => q
  | k + 1, i, q => if q0.2.1 22 (q0.2.1 15 i) = 0 then kTd T N q0 k (i + 1) q else kTd T N q0 k (i + 1) (kTs T N q0 (q0.2.1 6 (q0.2.1 24 (q0.2.1 15 i)) + q0.2.1 25 (q0.2.1 15 i)) (q0.2.1 22 (q0.2.1 15 i) - 1) (q0.2.1 20 (q0.2.1 15 i) - 1) q)
/-- all but defaults' places and the pool's end are as they were -/
def kSq (q0 q : kP) : Prop := q.2.2 = q0.2.2 ∧ (∀ r, r ≤ 31 ∨ r = 34 ∨ r = 35 → q.2.1 r = q0.2.1 r) ∧ (∀ k, k ≠ 6 → q.1 k = q0.1 k) ∧ q0.1 6 ≤ q.1 6 ∧ ∀ i, i < q0.1 6 → q.2.1 40 i = q0.2.1 40 i
theorem kSq_refl (q : kP) : kSq q q := ⟨rfl, fun _ _ => rfl, fun _ _ => rfl, Nat.le_refl _, fun _ _ => rfl⟩
theorem kTs_Q {T : Nat → Nat → Nat} {N : Nat → Int} {q0 q : kP} {p v x r i : Nat} : (kTs T N q0 p v x q).2.1 r i = if r = 33 ∧ i = p then (kWt T N q0 24 v x).length else if r = 40 ∧ q.1 6 ≤ i ∧ i < q.1 6 + (kWt T N q0 24 v x).length then (kWt T N q0 24 v x).getD (i - q.1 6) 0 else if r = 32 ∧ i = p then q.1 6 + 1 else q.2.1 r i := by
  unfold kTs
  rw [kQ_Q]
  split
  · rfl
  · show (if r = 40 ∧ q.1 6 ≤ i ∧ i < q.1 6 + (kWt T N q0 24 v x).length then (kWt T N q0 24 v x).getD (i - q.1 6) 0 else (kQ q 32 p (q.1 6 + 1)).2.1 r i) = _
    rw [kQ_Q]
theorem kTs_6 {T : Nat → Nat → Nat} {N : Nat → Int} {q0 q : kP} {p v x : Nat} : (kTs T N q0 p v x q).1 6 = q.1 6 + (kWt T N q0 24 v x).length := rfl
theorem kSq_ts {T : Nat → Nat → Nat} {N : Nat → Int} {q0 q : kP} {p v x : Nat} (h : kSq q0 q) : kSq q0 (kTs T N q0 p v x q) := by
  obtain ⟨h1, h2, h3, h4, h5⟩ := h
  refine ⟨h1, fun r hr => ?_, fun k hk => ?_, ?_, fun i hi => ?_⟩
  · rw [← h2 r hr]
    funext i
    rw [kTs_Q, if_neg (by omega), if_neg (by omega), if_neg (by omega)]
  · rw [← h3 k hk]
    show (if k = 6 then _ else q.1 k) = _
    rw [if_neg hk]
  · rw [kTs_6]; omega
  · rw [kTs_Q, if_neg (by omega), if_neg (by omega), if_neg (by omega)]
    exact h5 i hi
section
variable {b pb qb : Nat} {q : kP} {s : aT} {T : Nat → Nat → Nat} {N : Nat → Int} {m l n : Nat}
theorem lS_w30 {j x : Nat} (hj : j < q.1 3) : pI (lS b pb qb q s) 30 (pb + j) (zQ qb x) = lS b pb qb (kQ q 32 j x) s := by
  refine lS_w (fun k i => ?_)
  simp only [gI, lS, kQ, a2_ite]
  by_cases hk : k = 30
  · subst hk
    by_cases hi : i = pb + j
    · subst hi; simp [hj]
    · by_cases a : pb ≤ i ∧ i < pb + q.1 3
      · have : ¬ i - pb = j := by omega
        simp [hi, this]
      · simp [hi, a]
  · simp [hk]
theorem lS_w31 {j x : Nat} (hj : j < q.1 3) : pI (lS b pb qb q s) 31 (pb + j) (nI x) = lS b pb qb (kQ q 33 j x) s := by
  refine lS_w (fun k i => ?_)
  simp only [gI, lS, kQ, a2_ite]
  by_cases hk : k = 31
  · subst hk
    by_cases hi : i = pb + j
    · subst hi; simp [hj]
    · by_cases a : pb ≤ i ∧ i < pb + q.1 3
      · have : ¬ i - pb = j := by omega
        simp [hi, this]
      · simp [hi, a]
  · simp [hk]
theorem kIv_ts {q0 : kP} {p v x : Nat} (hI : kIv T m q) : kIv T m (kTs T N q0 p v x q) := kIv_q32 (by omega) (kIv_pb (kIv_q32 (by omega) hI))
theorem Df_tk (hC : lCx b pb qb s) (hT : lT s T N m l) (hG : jGt T N m l n) {q0 : kP} (hI0 : kIv T m q0) (hcd : kCd q0) (hdn : kDn T q0) (hp : pb + q0.1 3 ≤ 10112) (h5 : q0.1 5 ≤ 128) (h40 : q0.1 4 ≤ 128) {g z : Nat → Nat} (hg : g (q0.1 4) = q0.1 5 ∧ z (q0.1 4) = q0.1 7) (hw : ∀ i, i < q0.1 4 → kWe T N m q0 i (g i) (z i) (g (i + 1)) (z (i + 1))) (d : Nat) : ∀ k i q, i + k = q0.1 4 → g i ≤ q0.1 5 → z i ≤ q0.1 7 → kSq q0 q → kIv T m q → qb + q.1 6 + (q0.1 7 - z i) ≤ 72704 → (kDk T N q0 k i = 0 → fDf_take_2 (d + 58) (nI (g i)) (lS b pb qb q s) = rI (-1) (lS b pb qb (kTd T N q0 k i q) s) ∧ kSq q0 (kTd T N q0 k i q) ∧ kIv T m (kTd T N q0 k i q) ∧ qb + (kTd T N q0 k i q).1 6 ≤ 72704) ∧ (kDk T N q0 k i ≠ 0 → kDk T N q0 k i ≤ m ∧ ∃ q', fDf_take_2 (d + 58) (nI (g i)) (lS b pb qb q s) = rI (nI (kDk T N q0 k i - 1)) (lS b pb qb q' s)) := by
  have hm := hG.1
  have hn := hI0.1
  intro k
  induction k with
  | zero =>
    intro i q hi hgi hzi hs hI hq
    refine ⟨fun _ => ⟨?_, hs, hI, ?_⟩, fun h => absurd rfl h⟩
    · refine eDf_take_2 (d + 57) _ _ _ ?_
      have e : g i = q0.1 5 := by rw [show i = q0.1 4 by omega]; exact hg.1
      rw [lS_nw, hs.2.2.1 5 (by omega), e]
      simp (disch := omega) only [nI_leE]
      rw [if_pos (by omega)]
      rfl
    · show qb + q.1 6 ≤ 72704
      omega
  | succ k ih =>
    intro i q hi hgi hzi hs hI hq
    obtain ⟨t, p, ⟨h6, ht, h11, h4, hx⟩, h15, hle, h⟩ := hw i (by omega)
    have hii := hI0.2.2.2.1 t p h6 ht h4
    have eD : kDk T N q0 (k + 1) i = if q0.2.2 3 t p = 0 then kDk T N q0 k (i + 1) else if kFit T N q0 24 (q0.2.2 3 t p - 1) (q0.2.2 1 t p - 1) = 0 then kDk T N q0 k (i + 1) else kFit T N q0 24 (q0.2.2 3 t p - 1) (q0.2.2 1 t p - 1) := by
      show (if q0.2.1 22 (q0.2.1 15 i) = 0 then kDk T N q0 k (i + 1) else if kFit T N q0 24 (q0.2.1 22 (q0.2.1 15 i) - 1) (q0.2.1 20 (q0.2.1 15 i) - 1) = 0 then kDk T N q0 k (i + 1) else kFit T N q0 24 (q0.2.1 22 (q0.2.1 15 i) - 1) (q0.2.1 20 (q0.2.1 15 i) - 1)) = _
      rw [h15, hii.2.1.1, hii.2.1.2.2]
    have eT : kTd T N q0 (k + 1) i q = if q0.2.2 3 t p = 0 then kTd T N q0 k (i + 1) q else kTd T N q0 k (i + 1) (kTs T N q0 (q0.2.1 6 t + p) (q0.2.2 3 t p - 1) (q0.2.2 1 t p - 1) q) := by
      show (if q0.2.1 22 (q0.2.1 15 i) = 0 then kTd T N q0 k (i + 1) q else kTd T N q0 k (i + 1) (kTs T N q0 (q0.2.1 6 (q0.2.1 24 (q0.2.1 15 i)) + q0.2.1 25 (q0.2.1 15 i)) (q0.2.1 22 (q0.2.1 15 i) - 1) (q0.2.1 20 (q0.2.1 15 i) - 1) q)) = _
      rw [h15, hii.2.1.1, hii.2.1.2.2, hii.1.2.1, hii.1.2.2]
    rcases h with ⟨hz, hw', hz'⟩ | ⟨hz, hw', hz', h16, h17, hjv⟩
    · rw [eD, eT, if_pos hz, if_pos hz]
      have ihh := ih (i + 1) q (by omega) hle.1 hle.2 hs hI (by omega)
      rw [hw'] at ihh
      exact ihh
    · rw [eD, eT, if_neg hz, if_neg hz]
      have hIs := hI0.2.2.1 t h6 ht
      have h47 := (hcd t h6 ht).1.2.2.2.2 (by omega) (by omega)
      have hP : q0.2.1 6 t + p < q0.1 3 := by have := hIs.2.2.2.1; omega
      have hij := hI0.2.2.2.2 t p h6 ht (by omega)
      have h30 : q0.2.1 30 (q0.2.1 6 t + p) = q0.2.2 1 t p := by rw [hij.2.1, if_pos h4]
      have hx1 := hii.2.2.2.1
      have hvd := jVb_24 hjv
      have hltv := jVd_lt hvd
      have hcq : kCd q := kCd_fr (hs.2.2.1 1 (by omega)) hs.1 (fun r hr => hs.2.1 r (by omega)) hcd
      have c1 : q.1 1 = q0.1 1 := hs.2.2.1 1 (by omega)
      have c3 : q.1 3 = q0.1 3 := hs.2.2.1 3 (by omega)
      have c5 : q.1 5 = q0.1 5 := hs.2.2.1 5 (by omega)
      have hle' := kFit_le (N := N) hI0 hcd 24 (q0.2.2 3 t p - 1) (q0.2.2 1 t p - 1) hvd (by omega)
      have hmis := Df_mis hC hT hG hI hcq (by rw [c3]; exact hp) (by omega) 24 (Nat.le_refl _) (d + 5) (q0.2.2 3 t p - 1) (q0.2.2 1 t p - 1) 0 hvd (by rw [c1]; omega) (by omega)
      rw [kFit_fr hs.1 (fun r hr => hs.2.1 r (by omega))] at hmis
      have ef : 2 * 24 + 2 + (d + 5) + 2 = d + 57 := by omega
      rw [ef] at hmis
      have r40 : gI (lS b pb qb q s) 40 (g i) = nI (pb + (q0.2.1 6 t + p)) := by rw [lS_40 (by omega), hs.2.1 17 (by omega), h17]
      have r39 : gI (lS b pb qb q s) 39 (g i) = nI (q0.2.2 3 t p - 1) := by rw [lS_39 (by omega), hs.2.1 16 (by omega), h16]
      have zl : zL b (q0.2.2 1 t p) = nI (lo b (q0.2.2 1 t p - 1)) := by unfold zL; rw [if_neg hx]
      have r29 : gI (lS b pb qb q s) 29 (pb + (q0.2.1 6 t + p)) = nI (lo b (q0.2.2 1 t p - 1)) := by rw [lS_29 (by omega), hs.2.1 30 (by omega), h30, zl]
      have zq : zQ qb (q.1 6 + 1) = nI (qb + q.1 6) := by unfold zQ; rw [if_neg (by omega)]; rfl
      by_cases hf : kFit T N q0 24 (q0.2.2 3 t p - 1) (q0.2.2 1 t p - 1) = 0
      · rw [if_pos hf]
        have hlen := kWt_len hG hdn hI0 hcd 24 (Nat.le_refl _) (q0.2.2 3 t p - 1) (q0.2.2 1 t p - 1) hvd (by omega) hf
        have hI1 : kIv T m (kQ q 32 (q0.2.1 6 t + p) (q.1 6 + 1)) := kIv_q32 (by omega) hI
        have e32 : ∀ r, r ≠ 32 → (kQ q 32 (q0.2.1 6 t + p) (q.1 6 + 1)).2.1 r = q.2.1 r := fun r hr => by
          funext j
          rw [kQ_Q, if_neg (fun e => hr e.1)]
        have hc1 : kCd (kQ q 32 (q0.2.1 6 t + p) (q.1 6 + 1)) := kCd_fr (q := q) rfl rfl (fun r hr => e32 r (by omega)) hcq
        have d1 : (kQ q 32 (q0.2.1 6 t + p) (q.1 6 + 1)).1 = q.1 := rfl
        have hwr := Df_wr hC hT hG hI1 hc1 (by rw [d1, c3]; exact hp) 24 (Nat.le_refl _) d [] (q0.2.2 3 t p - 1) (q0.2.2 1 t p - 1) 0 hvd (by rw [d1, c1]; omega) (by omega)
        rw [kFit_fr (q := q0) (q' := kQ q 32 (q0.2.1 6 t + p) (q.1 6 + 1)) hs.1 (fun r hr => by rw [e32 r (by omega)]; exact hs.2.1 r (by omega)), kWt_fr (q := q0) (q' := kQ q 32 (q0.2.1 6 t + p) (q.1 6 + 1)) hs.1 (fun r hr => by rw [e32 r (by omega)]; exact hs.2.1 r (by omega)), kPb_nil] at hwr
        have hwr := hwr hf (by rw [d1]; show qb + q.1 6 + 0 + _ ≤ 72704; omega)
        have ef2 : 2 * 24 + 2 + d + 7 = d + 57 := by omega
        rw [ef2, List.nil_append] at hwr
        have ihh := ih (i + 1) (kTs T N q0 (q0.2.1 6 t + p) (q0.2.2 3 t p - 1) (q0.2.2 1 t p - 1) q) (by omega) hle.1 hle.2 (kSq_ts hs) (kIv_ts hI) (by rw [kTs_6]; omega)
        rw [hw'] at ihh
        have go : ∀ r, fDf_take_2 (d + 58) (nI (g i + 1)) (lS b pb qb (kTs T N q0 (q0.2.1 6 t + p) (q0.2.2 3 t p - 1) (q0.2.2 1 t p - 1) q) s) = some r → fDf_take_2 (d + 58) (nI (g i)) (lS b pb qb q s) = some r := by
          intro r hr
          refine eDf_take_2 (d + 57) _ _ _ ?_
          have f3 : (kQ q 32 (q0.2.1 6 t + p) (q.1 6 + 1)).1 3 = q0.1 3 := c3
          have f5 : (kQ q 32 (q0.2.1 6 t + p) (q.1 6 + 1)).1 5 = q0.1 5 := c5
          have r39' : gI (lS b pb qb (kQ q 32 (q0.2.1 6 t + p) (q.1 6 + 1)) s) 39 (g i) = nI (q0.2.2 3 t p - 1) := by rw [lS_39 (by omega), e32 16 (by omega), hs.2.1 16 (by omega), h16]
          have r29' : gI (lS b pb qb (kQ q 32 (q0.2.1 6 t + p) (q.1 6 + 1)) s) 29 (pb + (q0.2.1 6 t + p)) = nI (lo b (q0.2.2 1 t p - 1)) := by rw [lS_29 (by omega), e32 30 (by omega), hs.2.1 30 (by omega), h30, zl]
          generalize hW : kWt T N q0 24 (q0.2.2 3 t p - 1) (q0.2.2 1 t p - 1) = W at *
          have g3 : (kPb W (kQ q 32 (q0.2.1 6 t + p) (q.1 6 + 1))).1 3 = q0.1 3 := c3
          have r30 : gI (lS b pb qb (kPb W (kQ q 32 (q0.2.1 6 t + p) (q.1 6 + 1))) s) 30 (pb + (q0.2.1 6 t + p)) = nI (qb + q.1 6) := by rw [lS_30 (by omega), kPb_Q (by omega), kQ_Q, if_pos ⟨rfl, rfl⟩, zq]
          have g6 : gI (lS b pb qb (kPb W (kQ q 32 (q0.2.1 6 t + p) (q.1 6 + 1))) s) 32 1 = nI (qb + (q.1 6 + W.length)) := lS_pool
          have ets : kTs T N q0 (q0.2.1 6 t + p) (q0.2.2 3 t p - 1) (q0.2.2 1 t p - 1) q = kQ (kPb W (kQ q 32 (q0.2.1 6 t + p) (q.1 6 + 1))) 33 (q0.2.1 6 t + p) W.length := by unfold kTs; rw [hW]
          rw [lS_nw, c5]
          simp (disch := omega) only [nI_leE]
          rw [if_neg (by omega), ldI_n (by omega) (by omega), r40, ldI_n (by omega) (by omega), r39, ldI_n (by omega) (by omega), r29, show (0 : Int32) = nI 0 from rfl, hmis, cG_I, hf, if_pos (by decide), lS_pool, stI_n (by omega) (by omega), ← zq, lS_w30 (by omega), ldI_n (by omega) (by omega), r39', ldI_n (by omega) (by omega), r29', hwr, cG_V, ldI_n (by omega) (by omega), r30, g6, nI_sub (by omega), stI_n (by omega) (by omega), show qb + (q.1 6 + W.length) - (qb + q.1 6) = W.length by omega, lS_w31 (by omega), nI_add1, ← ets]
          exact hr
        refine ⟨fun h0 => ?_, fun h0 => ?_⟩
        · obtain ⟨i1, i2, i3, i4⟩ := ihh.1 h0
          exact ⟨go _ i1, i2, i3, i4⟩
        · obtain ⟨i0, q', i1⟩ := ihh.2 h0
          exact ⟨i0, q', go _ i1⟩
      · rw [if_neg hf]
        refine ⟨fun h0 => absurd h0 hf, fun _ => ⟨hle', q, ?_⟩⟩
        refine eDf_take_2 (d + 57) _ _ _ ?_
        rw [lS_nw, c5]
        simp (disch := omega) only [nI_leE]
        rw [if_neg (by omega), ldI_n (by omega) (by omega), r40, ldI_n (by omega) (by omega), r39, ldI_n (by omega) (by omega), r29, show (0 : Int32) = nI 0 from rfl, hmis, cG_I, zI_pos (by omega), if_neg (nI_ne (by omega))]
        rfl
end
