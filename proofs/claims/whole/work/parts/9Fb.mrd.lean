/-! the reference's Text: a whole text that is right -/
def mFg (c j : Nat) (t : aT) : aT := (fun k i => if k = c + 21 ∧ i < j then 0 else t.1 k i, t.2)
section
variable {c : Nat} {q : kP} {t s : aT} {T : Nat → Nat → Nat} {N : Nat → Int} {m l n : Nat} {B : Nat → Nat}
theorem mFg_I {j k i : Nat} : gI (mFg c j t) k i = if k = c + 21 ∧ i < j then 0 else gI t k i := rfl
theorem mFg_0 : mFg c 0 t = t := by
  refine aT_ext (fun k i => ?_) (fun _ _ => rfl) rfl
  rw [mFg_I, if_neg (by omega)]
theorem mFg_s {j : Nat} : pI (mFg c j t) (c + 21) j 0 = mFg c (j + 1) t := by
  refine aT_ext (fun k i => ?_) (fun _ _ => rfl) rfl
  rw [gI_pI, mFg_I, mFg_I]
  by_cases h : k = c + 21 ∧ i = j
  · rw [if_pos h, if_pos (show k = c + 21 ∧ i < j + 1 by omega)]
  · rw [if_neg h]
    by_cases h2 : k = c + 21 ∧ i < j
    · rw [if_pos h2, if_pos (show k = c + 21 ∧ i < j + 1 by omega)]
    · rw [if_neg h2, if_neg (show ¬ (k = c + 21 ∧ i < j + 1) by omega)]
theorem mFg_P (h33 : gI t c 33 = 0) : mFg c (q.1 1) t = mP c q [] 6 t := by
  refine aT_ext (fun k i => ?_) (fun _ _ => rfl) rfl
  rw [mFg_I, mP_I]
  by_cases h0 : k = c ∧ i = 33
  · rw [if_neg (show ¬ (k = c + 21 ∧ i < q.1 1) by omega), if_pos h0, h0.1, h0.2, h33]
    rfl
  · rw [if_neg h0, if_neg (show ¬ (k = c + 20 ∧ i < ([] : List Nat).length) from fun e => Nat.not_lt_zero _ e.2)]
    by_cases h1 : k = c + 21 ∧ i < q.1 1
    · rw [if_pos h1, if_pos h1, if_neg (show ¬ (6 ≤ i ∧ i < 6 ∧ 9 ≤ q.2.1 0 i) by omega)]
    · rw [if_neg h1, if_neg h1]
theorem Mt_83 (hc : isT c) (hv : mV c q t) (h33 : gI t c 33 = 0) (h140 : q.1 1 ≤ 140) (d : Nat) {w : aT} (hw : fMt_write d c (gI t c 31) (mP c q [] 6 t) = rV w) : ∀ k j, j + k = q.1 1 → fMt_read_83 (d + 1) c (nI j) (mFg c j t) = rI 0 w := by
  intro k
  induction k with
  | zero =>
    intro j hj
    refine eMt_read_83 d c _ _ hc _ ?_
    have e16 : gI (mFg c j t) c 16 = nI (q.1 1) := by rw [mFg_I, if_neg (by omega)]; exact hv.1
    have e31 : gI (mFg c j t) c 31 = gI t c 31 := by rw [mFg_I, if_neg (by omega)]
    rw [e16]
    simp (disch := omega) only [nI_leE]
    rw [if_pos (by omega), e31, show j = q.1 1 by omega, mFg_P h33, hw, cN_V]
    rfl
  | succ k ih =>
    intro j hj
    refine eMt_read_83 d c _ _ hc _ ?_
    have e16 : gI (mFg c j t) c 16 = nI (q.1 1) := by rw [mFg_I, if_neg (by omega)]; exact hv.1
    rw [e16]
    simp (disch := omega) only [nI_leE]
    rw [if_neg (by omega), stI_n (by omega) (by omega), show vp_nar .boolean 0 = 0 from by decide, mFg_s, nI_add1, ih (j + 1) (by omega)]
    rfl
theorem kTx_ok {p : jP} {x : Nat} (hn : n ≤ 4096) (h : kTx B n = .ok (p, q, x)) : jGt p.2.2.2.1 p.2.2.2.2 p.2.1 p.2.2.1 p.1 ∧ p.1 ≤ n ∧ kGd p.2.2.2.1 p.2.2.2.2 p.2.1 p.1 q x ∧ kSo p.2.2.2.1 p.2.2.2.2 16 0 false kP0 = .ok (q, x) ∧ (kPl p.2.2.2.1 q 16 x 6).1.length ≤ p.1 := by
  unfold kTx at h
  split at h
  · cases h
  · rename_i p1 v e hrd
    split at h
    · cases h
    · rename_i q1 x1 hs
      cases h
      obtain ⟨_, he, hpe, hG⟩ := jRd_gt hn hrd
      rw [he] at hpe hG
      unfold kSr at hs
      split at hs
      · cases hs
      · rename_i q2 x2 hk
        split at hs
        · cases hs
          have hg := kGd_of hG hk
          obtain ⟨hv, hw⟩ := jGt_0 hG
          have hpl := kSo_pl 16 _ _ _ _ _ kIv_0 hv hk
          have e6 : kP0.1 1 = 6 := rfl
          rw [e6] at hpl
          exact ⟨hG, hpe, hg, hk, by omega⟩
        · cases hs
/-- a Text that holds a text: rows, schemas, plain form -/
def mTx (c : Nat) (B : Nat → Nat) (n : Nat) (p : jP) (q : kP) (x : Nat) (s : aT) : aT := mP c q (kPl p.2.2.2.1 q 16 x 6).1 (q.1 1) (mS c q (pI (mJ c (jTo p n) (pI (mRd c B n s) c 6 (nI p.1))) c 31 (nI x)))
theorem mTx_V {p : jP} {x : Nat} : mV c q (mTx c B n p q x s) := mP_V mV_S
theorem mTx_T {p : jP} {x : Nat} : mT c (mTx c B n p q x s) p.2.2.2.1 p.2.2.2.2 p.2.1 p.2.2.1 := mP_T (mS_T (mT_pI (mT_J (p := jTo p n))))
theorem mTx_gb {p : jP} {x : Nat} : mGb c (mTx c B n p q x s) s := by
  refine mGb_tr (t := mS c q (pI (mJ c (jTo p n) (pI (mRd c B n s) c 6 (nI p.1))) c 31 (nI x))) ⟨fun k i hk => ⟨?_, rfl⟩, rfl⟩ (mGb_S (mGb_pI (by omega) (mGb_J (mGb_pI (by omega) mRd_gb))))
  unfold mTx
  rw [mP_o (by omega)]
theorem mTx_f {p : jP} {x : Nat} : gI (mTx c B n p q x s) c 31 = nI x ∧ gI (mTx c B n p q x s) c 6 = nI p.1 ∧ gI (mTx c B n p q x s) c 33 = nI (kPl p.2.2.2.1 q 16 x 6).1.length ∧ gI (mTx c B n p q x s) c 4 = 0 ∧ gI (mTx c B n p q x s) c 5 = -1 := by
  have fb : ∀ i, i = 4 ∨ i = 5 → gI (mRd c B n s) c i = if i = 5 then -1 else 0 := by
    intro i hi
    unfold mRd
    rw [mRb_I, if_pos rfl]
    rcases hi with rfl | rfl <;> rfl
  have f : ∀ i, i ≠ 33 ∧ i ≠ 16 ∧ i ≠ 17 ∧ i ≠ 24 ∧ i ≠ 29 → gI (mTx c B n p q x s) c i = gI (pI (mJ c (jTo p n) (pI (mRd c B n s) c 6 (nI p.1))) c 31 (nI x)) c i := fun i hi => by
    unfold mTx
    rw [mP_o (by omega), mS_f (by omega)]
  refine ⟨?_, ?_, ?_, ?_, ?_⟩
  · rw [f 31 (by omega), gI_pI, if_pos ⟨rfl, rfl⟩]
  · rw [f 6 (by omega), gI_pI, if_neg (by omega), mJ_f (by omega), gI_pI, if_pos ⟨rfl, rfl⟩]
  · exact mP_n
  · rw [f 4 (by omega), gI_pI, if_neg (by omega), mJ_f (by omega), gI_pI, if_neg (by omega), fb 4 (by omega)]
    rfl
  · rw [f 5 (by omega), gI_pI, if_neg (by omega), mJ_f (by omega), gI_pI, if_neg (by omega), fb 5 (by omega)]
    rfl
theorem mTx_r {p : jP} {x i : Nat} (hi : i < (kPl p.2.2.2.1 q 16 x 6).1.length) : gI (mTx c B n p q x s) (c + 20) i = mI ((kPl p.2.2.2.1 q 16 x 6).1.getD i 0) := by
  unfold mTx
  rw [mP_I, if_neg (by omega), if_pos ⟨rfl, hi⟩]
/-- what the reference's read leaves -/
theorem Mt_read (hc : isT c) (hn : n ≤ 4096) {a fr : Nat} (ha : a < c ∨ c + 22 ≤ a) (hl : fr + n ≤ alen a) (hla : alen a < 2147483648) (hA : ∀ i, i < n → gI s a (fr + i) = mI (B i)) (hB : ∀ i, B i < 256) (d : Nat) : match kTx B n with
    | .ok (p, q, x) => fMt_read (d + 58) c a (nI fr) (nI n) s = rI 0 (mTx c B n p q x s)
    | .error (k, e) => ∃ t, fMt_read (d + 58) c a (nI fr) (nI n) s = rI (nI k) t ∧ gI t c 4 = nI k ∧ gI t c 5 = nI e ∧ mGb c t (pU s) := by
  have hrd := Mt_rd (s := s) hc hn ha hl hla hA hB d
  cases hk : kTx B n with
  | error x =>
    rw [hk] at hrd
    exact hrd
  | ok x =>
    obtain ⟨p, q, x⟩ := x
    rw [hk] at hrd
    have hrd : ∀ r, fMt_read_83 (d + 58) c 0 (mS c q (pI (mJ c (jTo p n) (pI (mRd c B n s) c 6 (nI p.1))) c 31 (nI x))) = some r → fMt_read (d + 58) c a (nI fr) (nI n) s = some r := hrd
    obtain ⟨hG, hpe, hg, hso, hpl⟩ := kTx_ok hn hk
    obtain ⟨g1, g2, g3, g4, g5, g6, g7, g8, g9, g10, g11, g12⟩ := hg
    have hn1 := g1.1
    obtain ⟨u, hu⟩ : ∃ u, u = mS c q (pI (mJ c (jTo p n) (pI (mRd c B n s) c 6 (nI p.1))) c 31 (nI x)) := ⟨_, rfl⟩
    have hv : mV c q u := by rw [hu]; exact mV_S
    have hT : mT c u p.2.2.2.1 p.2.2.2.2 p.2.1 p.2.2.1 := by rw [hu]; exact mS_T (mT_pI (mT_J (p := jTo p n)))
    have e31 : gI u c 31 = nI x := by rw [hu, mS_f (by omega), gI_pI, if_pos ⟨rfl, rfl⟩]
    have e33 : gI u c 33 = 0 := by
      rw [hu, mS_f (by omega), gI_pI, if_neg (by omega), mJ_f (by omega), gI_pI, if_neg (by omega)]
      unfold mRd
      rw [mRb_I, if_pos rfl]
      rfl
    have hP : mPc c q u p.2.2.2.1 p.2.2.2.2 p.2.1 p.2.2.1 p.1 := ⟨hc, hv, hT, hG, g1, g2, by omega⟩
    have hw := Mw_wr hP 16 (d + 16) x 6 (q.1 1) [] g6 (by omega) (Nat.le_refl _) (by show 0 + _ ≤ _; omega)
    rw [show 2 * 16 + 9 + (d + 16) = d + 57 by omega, List.nil_append] at hw
    have h83 := Mt_83 hc hv e33 (by omega) (d + 57) (by rw [e31]; exact hw) (q.1 1) 0 (by omega)
    rw [mFg_0] at h83
    rw [← hu] at hrd
    refine hrd _ ?_
    rw [show (0 : Int32) = nI 0 from rfl, h83, hu]
    rfl
end
