/-! the reference's Text: all defaults -/
section
variable {c : Nat} {q : kP} {s : aT} {T : Nat → Nat → Nat} {N : Nat → Int} {m l n : Nat}
theorem jTr_up : ∀ D v e, jTr T N D v e → jTr T N (D + 1) v e
  | 0, v, e, h => .inl h
  | D + 1, v, e, h => by
    rcases h with h | ⟨h1, h⟩ | ⟨h1, k, hk, h⟩
    · exact .inl h
    · exact .inr (.inl ⟨h1, jTl_fr (fun a b => jTr_lt D a b) _ _ _ (fun _ _ _ => rfl) (fun a b _ _ g => jTr_up D a b g) h⟩)
    · exact .inr (.inr ⟨h1, k, hk, jTm_fr (fun a b => jTr_lt D a b) _ _ _ (fun _ _ _ => ⟨rfl, rfl⟩) (fun a b _ _ g => jTr_up D a b g) h⟩)
theorem jVb_24 {v : Nat} (h : jVb T N m v) : jVd T N m 24 v := by
  obtain ⟨D, hD, h1, h2⟩ := h
  refine ⟨?_, h2⟩
  have key : ∀ k D, D + k = 24 → jTr T N D v (jE T v) → jTr T N 24 v (jE T v) := by
    intro k
    induction k with
    | zero => intro D hD h; rw [Nat.add_zero] at hD; subst hD; exact h
    | succ k ih => intro D hD h; exact ih (D + 1) (by omega) (jTr_up D _ _ h)
  exact key (24 - D) D (by omega) h1
/-- the first default that does not fit (0: all do), in the order in which fields are done -/
def kDk (T : Nat → Nat → Nat) (N : Nat → Int) (q : kP) : Nat → Nat → Nat
  | 0, _ => 0
  | k + 1, i => if q.2.1 22 (q.2.1 15 i) = 0 then kDk T N q k (i + 1) else if kFit T N q 24 (q.2.1 22 (q.2.1 15 i) - 1) (q.2.1 20 (q.2.1 15 i) - 1) = 0 then kDk T N q k (i + 1) else kFit T N q 24 (q.2.1 22 (q.2.1 15 i) - 1) (q.2.1 20 (q.2.1 15 i) - 1)
/-- what a field that is done has -/
theorem kWi_at (hI : kIv T m q) (hw : kWi T N m q) {i : Nat} (hi : i < q.1 4) : q.2.1 15 i < q.1 2 ∧ q.2.1 20 (q.2.1 15 i) ≠ 0 ∧ q.2.1 20 (q.2.1 15 i) ≤ q.1 1 ∧ (q.2.1 22 (q.2.1 15 i) ≠ 0 → jVb T N m (q.2.1 22 (q.2.1 15 i) - 1)) := by
  obtain ⟨g, z, h0, h1, h2⟩ := hw
  obtain ⟨t, p, ⟨h6, ht, h11, h4, hx⟩, h15, _, h⟩ := h2 i hi
  have hii := hI.2.2.2.1 t p h6 ht h4
  rw [h15, hii.2.1.1, hii.2.1.2.2]
  refine ⟨hii.1.1, hx, hii.2.2.2.1, fun hd => ?_⟩
  rcases h with h | h
  · exact absurd h.1 hd
  · exact h.2.2.2.2.2
theorem Mt_ra33 (hc : isT c) (hT : mT c s T N m l) (hG : jGt T N m l n) (hI : kIv T m q) (hk2 : q.1 2 ≤ 2200) (hcd : kCd q) (hw : kWi T N m q) (h40 : q.1 4 ≤ 128) (d : Nat) : ∀ k i, i + k = q.1 4 → fMt_readAll_33 (d + 53) c (nI i) (mS c q s) = mFr c q s T (kDk T N q k i) := by
  have hm := hG.1
  have hn := hI.1
  have hTq := mS_T (q := q) hT
  intro k
  induction k with
  | zero =>
    intro i hi
    refine eMt_readAll_33 (d + 52) c _ _ hc _ ?_
    rw [mS_nd]
    simp (disch := omega) only [nI_leE]
    rw [if_pos (by omega)]
    rfl
  | succ k ih =>
    intro i hi
    have hat := kWi_at hI hw (i := i) (by omega)
    have ihh := ih (i + 1) (by omega)
    have g57 : ∀ r, mFr c q s T (kDk T N q k (i + 1)) = some r → fMt_readAll_57 (d + 53) c (nI i) (mS c q s) = some r := by
      intro r hr
      refine eMt_readAll_57 (d + 52) c _ _ hc _ ?_
      rw [nI_add1, ihh]
      exact hr
    refine mFr_go (fun r hr => ?_)
    have es : kDk T N q (k + 1) i = if q.2.1 22 (q.2.1 15 i) = 0 then kDk T N q k (i + 1) else if kFit T N q 24 (q.2.1 22 (q.2.1 15 i) - 1) (q.2.1 20 (q.2.1 15 i) - 1) = 0 then kDk T N q k (i + 1) else kFit T N q 24 (q.2.1 22 (q.2.1 15 i) - 1) (q.2.1 20 (q.2.1 15 i) - 1) := rfl
    rw [es] at hr
    refine eMt_readAll_33 (d + 52) c _ _ hc _ ?_
    have c19 : gI (mS c q s) (c + 19) i = nI (q.2.1 15 i) := mS_19 (by omega)
    generalize q.2.1 15 i = kid at *
    rw [mS_nd]
    simp (disch := omega) only [nI_leE]
    rw [if_neg (by omega), ldI_n (by omega) (by omega), c19, ldI_n (by omega) (by omega), mS_17 hat.1]
    by_cases hz : q.2.1 22 kid = 0
    · rw [if_pos hz] at hr
      rw [hz, if_pos (by decide)]
      exact g57 _ hr
    · rw [if_neg hz] at hr
      have hvd := jVb_24 (hat.2.2.2 hz)
      have hltv := jVd_lt hvd
      have e22 : zI (q.2.1 22 kid) = nI (q.2.1 22 kid - 1) := zI_pos (by omega)
      have e20 : zI (q.2.1 20 kid) = nI (q.2.1 20 kid - 1) := zI_pos (by omega)
      have hf := Mt_fit hc hT hG hI hk2 hcd 24 (Nat.le_refl _) d (q.2.1 22 kid - 1) (q.2.1 20 kid - 1) hvd (by omega)
      have ef : 2 * 24 + 2 + d + 2 = d + 52 := by omega
      rw [ef] at hf
      rw [e22, if_neg (nI_pos (by omega)), ldI_n (by omega) (by omega), mS_17 hat.1, e22, ldI_n (by omega) (by omega), mS_15 hat.1, e20, hf, mFr_cg]
      by_cases hz2 : kFit T N q 24 (q.2.1 22 kid - 1) (q.2.1 20 kid - 1) = 0
      · rw [if_pos hz2] at hr ⊢
        exact g57 _ hr
      · rw [if_neg hz2] at hr ⊢
        exact hr
end
