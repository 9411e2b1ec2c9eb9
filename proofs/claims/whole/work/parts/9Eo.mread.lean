/-! the reference's Text: reading a text out of an array -/
theorem mI_nar : ∀ x, x < 256 → vp_nar .byte (mI x) = mI x := by decide +kernel
/-- the letters that have come over -/
def mR1 (c : Nat) (B : Nat → Nat) (j : Nat) (s : aT) : aT := (fun k i => if k = c + 1 ∧ i < j then mI (B i) else s.1 k i, s.2)
def mR2 (c j : Nat) (s : aT) : aT := (fun k i => if k = c + 9 ∧ i < j then nI i else if (k = c + 10 ∨ k = c + 12) ∧ i < j then -1 else s.1 k i, s.2)
section
variable {c : Nat} {s : aT} {B : Nat → Nat} {n : Nat}
theorem mR1_I {j k i : Nat} : gI (mR1 c B j s) k i = if k = c + 1 ∧ i < j then mI (B i) else gI s k i := rfl
theorem mR2_I {j k i : Nat} : gI (mR2 c j s) k i = if k = c + 9 ∧ i < j then nI i else if (k = c + 10 ∨ k = c + 12) ∧ i < j then -1 else gI s k i := rfl
theorem mR1_0 : mR1 c B 0 s = s := by
  refine aT_ext (fun k i => ?_) (fun _ _ => rfl) rfl
  rw [mR1_I, if_neg (by omega)]
theorem mR1_s {j : Nat} : pI (mR1 c B j s) (c + 1) j (mI (B j)) = mR1 c B (j + 1) s := by
  refine aT_ext (fun k i => ?_) (fun _ _ => rfl) rfl
  rw [gI_pI, mR1_I, mR1_I]
  by_cases h : k = c + 1 ∧ i = j
  · rw [if_pos h, if_pos (by omega), h.2]
  · rw [if_neg h]
    by_cases h2 : k = c + 1 ∧ i < j
    · rw [if_pos h2, if_pos (by omega)]
    · rw [if_neg h2, if_neg (by omega)]
theorem mR2_0 : mR2 c 0 s = s := by
  refine aT_ext (fun k i => ?_) (fun _ _ => rfl) rfl
  rw [mR2_I, if_neg (by omega), if_neg (by omega)]
theorem mR2_s {j : Nat} : pI (pI (pI (mR2 c j s) (c + 9) j (nI j)) (c + 10) j (-1)) (c + 12) j (-1) = mR2 c (j + 1) s := by
  refine aT_ext (fun k i => ?_) (fun _ _ => rfl) rfl
  rw [gI_pI, gI_pI, gI_pI, mR2_I, mR2_I]
  by_cases h12 : k = c + 12 ∧ i = j
  · rw [if_pos h12, if_neg (by omega), if_pos (by omega)]
  · rw [if_neg h12]
    by_cases h10 : k = c + 10 ∧ i = j
    · rw [if_pos h10, if_neg (by omega), if_pos (by omega)]
    · rw [if_neg h10]
      by_cases h9 : k = c + 9 ∧ i = j
      · rw [if_pos h9, if_pos (by omega), h9.2]
      · rw [if_neg h9]
        by_cases a : k = c + 9 ∧ i < j
        · rw [if_pos a, if_pos (by omega)]
        · rw [if_neg a]
          by_cases b : (k = c + 10 ∨ k = c + 12) ∧ i < j
          · rw [if_pos b, if_neg (by omega), if_pos (by omega)]
          · rw [if_neg b, if_neg (by omega), if_neg (by omega)]
/-- the fields of a Text that begins -/
def mRa (c n : Nat) (s : aT) : aT := pI (pI (pI (pI (pI (pI s c 1 (nI n)) c 2 0) c 3 0) c 7 0) c 15 0) c 16 6
def mRb (c : Nat) (s : aT) : aT := pI (pI (pI (pI (pI (pI s c 17 0) c 24 0) c 29 0) c 4 0) c 5 (-1)) c 33 0
/-- where a text's reading begins -/
def mRd (c : Nat) (B : Nat → Nat) (n : Nat) (s : aT) : aT := mRb c (mR2 c 6 (mRa c n (mR1 c B n s)))
theorem mRa_I {k i : Nat} : gI (mRa c n s) k i = if k = c then (if i = 1 then nI n else if i = 2 ∨ i = 3 ∨ i = 7 ∨ i = 15 then 0 else if i = 16 then 6 else gI s k i) else gI s k i := by
  unfold mRa
  simp only [gI_pI]
  by_cases hk : k = c
  · simp only [hk, true_and, if_true]
    repeat' split
    all_goals first | rfl | omega
  · simp [hk]
theorem mRb_I {k i : Nat} : gI (mRb c s) k i = if k = c then (if i = 5 then -1 else if i = 17 ∨ i = 24 ∨ i = 29 ∨ i = 4 ∨ i = 33 then 0 else gI s k i) else gI s k i := by
  unfold mRb
  simp only [gI_pI]
  by_cases hk : k = c
  · simp only [hk, true_and, if_true]
    repeat' split
    all_goals first | rfl | omega
  · simp [hk]
theorem mRd_gb : mGb c (mRd c B n s) s := by
  refine ⟨fun k i hk => ⟨?_, rfl⟩, rfl⟩
  unfold mRd
  rw [mRb_I, if_neg (by omega), mR2_I, if_neg (by omega), if_neg (by omega), mRa_I, if_neg (by omega), mR1_I, if_neg (by omega)]
theorem mRd_0 (hn : n ≤ 4096) (hB : ∀ i, B i < 256) : mR0 c (mRd c B n s) B n := by
  have f : ∀ i, gI (mRd c B n s) c i = if i = 5 then -1 else if i = 17 ∨ i = 24 ∨ i = 29 ∨ i = 4 ∨ i = 33 then 0 else if i = 1 then nI n else if i = 2 ∨ i = 3 ∨ i = 7 ∨ i = 15 then 0 else if i = 16 then 6 else gI s c i := by
    intro i
    unfold mRd
    have e1 : gI (mR1 c B n s) c i = gI s c i := by rw [mR1_I, if_neg (by omega)]
    have e2 : gI (mR2 c 6 (mRa c n (mR1 c B n s))) c i = gI (mRa c n (mR1 c B n s)) c i := by rw [mR2_I, if_neg (by omega), if_neg (by omega)]
    rw [mRb_I, if_pos rfl, e2, mRa_I, if_pos rfl, e1]
  refine ⟨⟨hn, ?_, fun i hi => ?_, hB⟩, ⟨?_, ?_, ?_, ?_⟩, ⟨?_, ?_, ?_, ?_⟩, fun i hi => ⟨?_, ?_, ?_⟩⟩
  · rw [f]; rfl
  · unfold mRd
    rw [mRb_I, if_neg (by omega), mR2_I, if_neg (by omega), if_neg (by omega), mRa_I, if_neg (by omega), mR1_I, if_pos ⟨rfl, hi⟩]
  · rw [f]; rfl
  · rw [f]; rfl
  · rw [f]; rfl
  · rw [f]; rfl
  · rw [f]; rfl
  · rw [f]; rfl
  · rw [f]; rfl
  · rw [f]; rfl
  · unfold mRd
    rw [mRb_I, if_neg (by omega), mR2_I, if_pos ⟨rfl, hi⟩]
  · unfold mRd
    rw [mRb_I, if_neg (by omega), mR2_I, if_neg (by omega), if_pos ⟨.inl rfl, hi⟩]
  · unfold mRd
    rw [mRb_I, if_neg (by omega), mR2_I, if_neg (by omega), if_pos ⟨.inr rfl, hi⟩]
theorem Mt_read36 (hc : isT c) (d : Nat) : ∀ k j r, j + k = 6 → cC (fMt_readAll d c (mRb c (mR2 c 6 s))) (kV fun s7 => fMt_read_83 (d + 1) c 0 s7) (fun s7 => rI (gI s7 c 4) s7) = some r → fMt_read_36 (d + 1) c (nI j) (mR2 c j s) = some r := by
  intro k
  induction k with
  | zero =>
    intro j r hj hr
    refine eMt_read_36 d c _ _ hc _ ?_
    rw [show j = 6 by omega, if_pos (by decide)]
    exact hr
  | succ k ih =>
    intro j r hj hr
    have ihh := ih (j + 1) r (by omega) hr
    refine eMt_read_36 d c _ _ hc _ ?_
    have e6 : ¬ (6 : Int32) ≤ nI j := by rw [nI_lit 6, nI_leE (by omega) (by omega)]; omega
    rw [if_neg e6, stI_n (by omega) (by omega), stI_n (by omega) (by omega), stI_n (by omega) (by omega), mR2_s, nI_add1]
    exact ihh
theorem Mt_read2 (hc : isT c) (hn : n ≤ 4096) {a fr : Nat} (ha : a < c ∨ c + 22 ≤ a) (hl : fr + n ≤ alen a) (hla : alen a < 2147483648) (hA : ∀ i, i < n → gI s a (fr + i) = mI (B i)) (hB : ∀ i, B i < 256) (d : Nat) : ∀ k j r, j + k = n → cC (fMt_readAll d c (mRd c B n s)) (kV fun s7 => fMt_read_83 (d + 1) c 0 s7) (fun s7 => rI (gI s7 c 4) s7) = some r → fMt_read_2 (d + 1) c a (nI fr) (nI n) (nI j) (mR1 c B j s) = some r := by
  intro k
  induction k with
  | zero =>
    intro j r hj hr
    refine eMt_read_2 d c a _ _ _ _ hc _ ?_
    simp (disch := omega) only [nI_leE]
    rw [if_pos (by omega), show j = n by omega]
    have h36 := Mt_read36 (s := mRa c n (mR1 c B n s)) hc d 6 0 r (by omega) hr
    rw [mR2_0] at h36
    exact h36
  | succ k ih =>
    intro j r hj hr
    have ihh := ih (j + 1) r (by omega) hr
    refine eMt_read_2 d c a _ _ _ _ hc _ ?_
    simp (disch := omega) only [nI_leE]
    rw [if_neg (by omega), nI_addE, ldI_n (by omega) (by omega), mR1_I, if_neg (by omega), hA j (by omega), mI_nar _ (hB j), stI_n (by omega) (by omega), mR1_s, nI_add1]
    exact ihh
/-- what comes behind a whole text's reading -/
theorem Mt_rd (hc : isT c) (hn : n ≤ 4096) {a fr : Nat} (ha : a < c ∨ c + 22 ≤ a) (hl : fr + n ≤ alen a) (hla : alen a < 2147483648) (hA : ∀ i, i < n → gI s a (fr + i) = mI (B i)) (hB : ∀ i, B i < 256) (d : Nat) : match kTx B n with
    | .ok (p, q, x) => ∀ r, fMt_read_83 (d + 58) c 0 (mS c q (pI (mJ c (jTo p n) (pI (mRd c B n s) c 6 (nI p.1))) c 31 (nI x))) = some r → fMt_read (d + 58) c a (nI fr) (nI n) s = some r
    | .error (k, e) => ∃ t, fMt_read (d + 58) c a (nI fr) (nI n) s = rI (nI k) t ∧ gI t c 4 = nI k ∧ gI t c 5 = nI e ∧ mGb c t (pU s) := by
  have hra := Mt_ra (s := mRd c B n s) hc (mRd_0 hn hB) d
  have go : ∀ r, cC (fMt_readAll (d + 57) c (mRd c B n s)) (kV fun s7 => fMt_read_83 (d + 58) c 0 s7) (fun s7 => rI (gI s7 c 4) s7) = some r → fMt_read (d + 58) c a (nI fr) (nI n) s = some r := by
    intro r hr
    refine eMt_read (d + 57) c a _ _ _ hc _ ?_
    have h2 := Mt_read2 (s := s) hc hn ha hl hla hA hB (d + 57) n 0 r (by omega) hr
    rw [mR1_0] at h2
    exact h2
  cases hk : kTx B n with
  | ok x =>
    obtain ⟨p, q, x⟩ := x
    rw [hk] at hra
    have hra : fMt_readAll (d + 57) c (mRd c B n s) = rV _ := hra
    intro r hr
    refine go _ ?_
    rw [hra, cC_V]
    exact hr
  | error x =>
    obtain ⟨k, e⟩ := x
    rw [hk] at hra
    obtain ⟨t, h1, h2, h3, h4⟩ := hra
    refine ⟨t, go _ ?_, h2, h3, mGb_tr h4 (mGb_U mRd_gb)⟩
    rw [h1, cC_T, h2]
    rfl
end
