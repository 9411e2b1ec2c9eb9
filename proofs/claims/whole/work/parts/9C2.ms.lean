/-! the reference's Text: the rows of its schemas, laid over a state -/
def mS (c : Nat) (q : kP) (s : aT) : aT :=
  (fun k i =>
    if k = c then (if i = 16 then nI (q.1 1) else if i = 17 then nI (q.1 0) else if i = 24 then nI (q.1 2) else if i = 29 then nI (q.1 4) else s.1 k i)
    else if k = c + 9 then (if i < q.1 1 then nI (q.2.1 0 i) else s.1 k i)
    else if k = c + 10 then (if i < q.1 1 then zI (q.2.1 1 i) else s.1 k i)
    else if k = c + 11 then (if 6 ≤ i ∧ i < q.1 1 then nI (if q.2.1 0 i = 9 then q.2.1 8 i - 1 else 0) else s.1 k i)
    else if k = c + 12 then (if i < q.1 1 then zI (q.2.1 13 i) else s.1 k i)
    else if k = c + 13 then (if 6 ≤ i ∧ i < q.1 1 then nI (q.2.1 4 i) else s.1 k i)
    else if k = c + 14 then (if 6 ≤ i ∧ i < q.1 1 then (if q.2.1 0 i = 10 then zI (q.2.1 8 i) else -1) else s.1 k i)
    else if k = c + 15 then (if i < q.1 2 then zI (q.2.1 20 i) else s.1 k i)
    else if k = c + 16 then (if i < q.1 2 then zI (q.2.1 21 i) else s.1 k i)
    else if k = c + 17 then (if i < q.1 2 then zI (q.2.1 22 i) else s.1 k i)
    else if k = c + 18 then (if i < q.1 2 then zI (q.2.1 23 i) else s.1 k i)
    else if k = c + 19 then (if i < q.1 4 then nI (q.2.1 15 i) else s.1 k i)
    else s.1 k i, s.2)
section
variable {c : Nat} {q : kP} {s : aT}
theorem mS_ns : gI (mS c q s) c 16 = nI (q.1 1) := by simp [gI, mS]
theorem mS_lk : gI (mS c q s) c 17 = nI (q.1 0) := by simp [gI, mS]
theorem mS_nk : gI (mS c q s) c 24 = nI (q.1 2) := by simp [gI, mS]
theorem mS_nd : gI (mS c q s) c 29 = nI (q.1 4) := by simp [gI, mS]
theorem mS_f {f : Nat} (h : f ≠ 16 ∧ f ≠ 17 ∧ f ≠ 24 ∧ f ≠ 29) : gI (mS c q s) c f = gI s c f := by simp [gI, mS, h]
theorem mS_9 {i : Nat} (h : i < q.1 1) : gI (mS c q s) (c + 9) i = nI (q.2.1 0 i) := by simp [gI, mS, h]
theorem mS_10 {i : Nat} (h : i < q.1 1) : gI (mS c q s) (c + 10) i = zI (q.2.1 1 i) := by simp [gI, mS, h]
theorem mS_11 {i : Nat} (h6 : 6 ≤ i) (h : i < q.1 1) : gI (mS c q s) (c + 11) i = nI (if q.2.1 0 i = 9 then q.2.1 8 i - 1 else 0) := by simp [gI, mS, h, h6]
theorem mS_12 {i : Nat} (h : i < q.1 1) : gI (mS c q s) (c + 12) i = zI (q.2.1 13 i) := by simp [gI, mS, h]
theorem mS_13 {i : Nat} (h6 : 6 ≤ i) (h : i < q.1 1) : gI (mS c q s) (c + 13) i = nI (q.2.1 4 i) := by simp [gI, mS, h, h6]
theorem mS_14 {i : Nat} (h6 : 6 ≤ i) (h : i < q.1 1) : gI (mS c q s) (c + 14) i = if q.2.1 0 i = 10 then zI (q.2.1 8 i) else -1 := by simp [gI, mS, h, h6]
theorem mS_15 {i : Nat} (h : i < q.1 2) : gI (mS c q s) (c + 15) i = zI (q.2.1 20 i) := by simp [gI, mS, h]
theorem mS_16 {i : Nat} (h : i < q.1 2) : gI (mS c q s) (c + 16) i = zI (q.2.1 21 i) := by simp [gI, mS, h]
theorem mS_17 {i : Nat} (h : i < q.1 2) : gI (mS c q s) (c + 17) i = zI (q.2.1 22 i) := by simp [gI, mS, h]
theorem mS_18 {i : Nat} (h : i < q.1 2) : gI (mS c q s) (c + 18) i = zI (q.2.1 23 i) := by simp [gI, mS, h]
theorem mS_19 {i : Nat} (h : i < q.1 4) : gI (mS c q s) (c + 19) i = nI (q.2.1 15 i) := by simp [gI, mS, h]
theorem mS_lo {k i : Nat} (h1 : c + 1 ≤ k) (h2 : k ≤ c + 8) : gI (mS c q s) k i = gI s k i := by
  have e : ∀ j, (j = 0 ∨ 9 ≤ j) → ¬ k = c + j := fun j hj => by omega
  have e0 : ¬ k = c := by omega
  simp [gI, mS, e0, e 9 (by omega), e 10 (by omega), e 11 (by omega), e 12 (by omega), e 13 (by omega), e 14 (by omega), e 15 (by omega), e 16 (by omega), e 17 (by omega), e 18 (by omega), e 19 (by omega)]
theorem mS_out {k i : Nat} (h : k < c ∨ c + 20 ≤ k) : gI (mS c q s) k i = gI s k i := by
  have e : ∀ j, j ≤ 19 → ¬ k = c + j := fun j hj => by omega
  have e0 : ¬ k = c := by omega
  simp [gI, mS, e0, e 9 (by omega), e 10 (by omega), e 11 (by omega), e 12 (by omega), e 13 (by omega), e 14 (by omega), e 15 (by omega), e 16 (by omega), e 17 (by omega), e 18 (by omega), e 19 (by omega)]
theorem mS_L {k i : Nat} : gL (mS c q s) k i = gL s k i := rfl
theorem mS_U : pU (mS c q s) = mS c q (pU s) := rfl
theorem mS_T {T : Nat → Nat → Nat} {N : Nat → Int} {m l : Nat} (h : mT c s T N m l) : mT c (mS c q s) T N m l := by
  refine ⟨fun i hi => ?_, fun i hi => ?_⟩
  · have a := h.1 i hi
    rw [mS_lo (by omega) (by omega), mS_lo (by omega) (by omega), mS_lo (by omega) (by omega), mS_lo (by omega) (by omega), mS_lo (by omega) (by omega), mS_L]
    exact a
  · rw [mS_lo (by omega) (by omega)]
    exact h.2 i hi
/-- two overlays are the same when the rows that they show are -/
theorem mS_ext {q' : kP} (h1 : q'.1 1 = q.1 1) (h0 : q'.1 0 = q.1 0) (h2 : q'.1 2 = q.1 2) (h4 : q'.1 4 = q.1 4) (hr : ∀ r i, r = 0 ∨ r = 1 ∨ r = 4 ∨ r = 8 ∨ r = 13 → i < q.1 1 → q'.2.1 r i = q.2.1 r i) (hk : ∀ r i, 20 ≤ r → r ≤ 23 → i < q.1 2 → q'.2.1 r i = q.2.1 r i) (hd : ∀ i, i < q.1 4 → q'.2.1 15 i = q.2.1 15 i) : mS c q' s = mS c q s := by
  refine aT_ext (fun k i => ?_) (fun k i => rfl) rfl
  simp only [gI, mS, h1, h0, h2, h4]
  by_cases a1 : i < q.1 1
  · rw [hr 0 i (by omega) a1, hr 1 i (by omega) a1, hr 4 i (by omega) a1, hr 8 i (by omega) a1, hr 13 i (by omega) a1]
    by_cases a2 : i < q.1 2
    · rw [hk 20 i (by omega) (by omega) a2, hk 21 i (by omega) (by omega) a2, hk 22 i (by omega) (by omega) a2, hk 23 i (by omega) (by omega) a2]
      by_cases a4 : i < q.1 4
      · rw [hd i a4]
      · simp [a4]
    · simp only [a2, if_false]
      by_cases a4 : i < q.1 4
      · rw [hd i a4]
      · simp [a4]
  · simp only [a1, if_false, and_false]
    by_cases a2 : i < q.1 2
    · rw [hk 20 i (by omega) (by omega) a2, hk 21 i (by omega) (by omega) a2, hk 22 i (by omega) (by omega) a2, hk 23 i (by omega) (by omega) a2]
      by_cases a4 : i < q.1 4
      · rw [hd i a4]
      · simp [a4]
    · simp only [a2, if_false]
      by_cases a4 : i < q.1 4
      · rw [hd i a4]
      · simp [a4]
/-- a change of rows: how a write shows -/
theorem mS_w {q' : kP} {k0 i0 : Nat} {v : Int32} (h : ∀ k i, gI (mS c q' s) k i = if k = k0 ∧ i = i0 then v else gI (mS c q s) k i) : pI (mS c q s) k0 i0 v = mS c q' s := by
  refine aT_ext (fun k i => ?_) (fun k i => rfl) rfl
  rw [gI_pI, h]
theorem mS_c0 {v : Nat} : pI (mS c q s) c 17 (nI v) = mS c (kC q 0 v) s := by
  refine mS_w (fun k i => ?_)
  have h0 : (kC q 0 v).1 0 = v := rfl
  have h1 : (kC q 0 v).1 1 = q.1 1 := rfl
  have h2 : (kC q 0 v).1 2 = q.1 2 := rfl
  have h4 : (kC q 0 v).1 4 = q.1 4 := rfl
  have hQ : (kC q 0 v).2.1 = q.2.1 := rfl
  simp only [gI, mS, h0, h1, h2, h4, hQ]
  by_cases hk : k = c
  · subst hk
    by_cases hi : i = 17
    · subst hi; simp
    · simp [hi]
  · simp [hk]
theorem mS_w15 {i x : Nat} (hi : i < q.1 2) : pI (mS c q s) (c + 15) i (zI x) = mS c (kQ q 20 i x) s := by
  refine mS_w (fun k j => ?_)
  simp only [gI, mS, kQ, a2_ite]
  by_cases hk : k = c + 15
  · subst hk
    by_cases hj : j = i
    · subst hj; simp [hi]
    · simp [hj]
  · simp [hk]
theorem mS_w16 {i x : Nat} (hi : i < q.1 2) : pI (mS c q s) (c + 16) i (zI x) = mS c (kQ q 21 i x) s := by
  refine mS_w (fun k j => ?_)
  simp only [gI, mS, kQ, a2_ite]
  by_cases hk : k = c + 16
  · subst hk
    by_cases hj : j = i
    · subst hj; simp [hi]
    · simp [hj]
  · simp [hk]
theorem mS_w17 {i x : Nat} (hi : i < q.1 2) : pI (mS c q s) (c + 17) i (zI x) = mS c (kQ q 22 i x) s := by
  refine mS_w (fun k j => ?_)
  simp only [gI, mS, kQ, a2_ite]
  by_cases hk : k = c + 17
  · subst hk
    by_cases hj : j = i
    · subst hj; simp [hi]
    · simp [hj]
  · simp [hk]
theorem mS_w10 {i x : Nat} (hi : i < q.1 1) : pI (mS c q s) (c + 10) i (zI x) = mS c (kQ q 1 i x) s := by
  refine mS_w (fun k j => ?_)
  simp only [gI, mS, kQ, a2_ite]
  by_cases hk : k = c + 10
  · subst hk
    by_cases hj : j = i
    · subst hj; simp [hi]
    · simp [hj]
  · simp [hk]
theorem mS_w11 {i x : Nat} (h6 : 6 ≤ i) (hi : i < q.1 1) (h9 : q.2.1 0 i = 9) : pI (mS c q s) (c + 11) i (nI x) = mS c (kQ q 8 i (x + 1)) s := by
  refine mS_w (fun k j => ?_)
  simp only [gI, mS, kQ, a2_ite]
  by_cases hk : k = c + 11
  · subst hk
    by_cases hj : j = i
    · subst hj; simp [hi, h6, h9]
    · simp [hj]
  · by_cases hk2 : k = c + 14
    · subst hk2
      by_cases hj : j = i
      · subst hj; simp [h9]
      · simp [hj]
    · simp [hk, hk2]
theorem mS_w14 {i x : Nat} (h6 : 6 ≤ i) (hi : i < q.1 1) (h9 : q.2.1 0 i = 10) : pI (mS c q s) (c + 14) i (zI x) = mS c (kQ q 8 i x) s := by
  refine mS_w (fun k j => ?_)
  simp only [gI, mS, kQ, a2_ite]
  by_cases hk : k = c + 14
  · subst hk
    by_cases hj : j = i
    · subst hj; simp [hi, h6, h9]
    · simp [hj]
  · by_cases hk2 : k = c + 11
    · subst hk2
      by_cases hj : j = i
      · subst hj; simp [h9]
      · simp [hj]
    · simp [hk, hk2]
theorem mS_w19 {x : Nat} : pI (pI (mS c q s) (c + 19) (q.1 4) (nI x)) c 29 (nI (q.1 4 + 1)) = mS c (kC (kQ q 15 (q.1 4) x) 4 (q.1 4 + 1)) s := by
  refine aT_ext (fun k i => ?_) (fun k i => rfl) rfl
  rw [gI_pI, gI_pI]
  simp only [gI, mS, kQ, kC, kU, a2_ite]
  by_cases hk : k = c
  · subst hk
    by_cases hi : i = 29
    · subst hi; simp
    · simp [hi]
  · by_cases hk2 : k = c + 19
    · subst hk2
      by_cases hi : i = q.1 4
      · subst hi; simp
      · have e : (i < q.1 4 + 1) = (i < q.1 4) := by apply propext; omega
        simp [hi, e]
    · simp [hk, hk2]
theorem mS_sh {k : Nat} (h6 : 6 ≤ q.1 1) : pI (pI (pI (pI (pI (pI (pI (mS c q s) (c + 9) (q.1 1) (nI k)) (c + 10) (q.1 1) (-1)) (c + 11) (q.1 1) 0) (c + 12) (q.1 1) (-1)) (c + 13) (q.1 1) 0) (c + 14) (q.1 1) (-1)) c 16 (nI (q.1 1 + 1)) = mS c (kSh k q) s := by
  have h0 : (kSh k q).1 0 = q.1 0 := rfl
  have h1 : (kSh k q).1 1 = q.1 1 + 1 := rfl
  have h2 : (kSh k q).1 2 = q.1 2 := rfl
  have h4 : (kSh k q).1 4 = q.1 4 := rfl
  have hk : ∀ r i, 14 ≤ r → r ≠ 18 → (kSh k q).2.1 r i = q.2.1 r i := by
    intro r i a b
    rw [kSh_Q]
    split
    · repeat' rw [if_neg (by omega)]
    · rfl
  refine aT_ext (fun j i => ?_) (fun j i => rfl) rfl
  simp only [gI_pI]
  simp only [gI, mS, h0, h1, h2, h4, hk 20 i (by omega) (by omega), hk 21 i (by omega) (by omega), hk 22 i (by omega) (by omega), hk 23 i (by omega) (by omega), hk 15 i (by omega) (by omega)]
  by_cases hi : i = q.1 1
  · subst hi
    have r0 : (kSh k q).2.1 0 (q.1 1) = k := by rw [kSh_Q, if_pos rfl, if_pos rfl]
    have rz : ∀ r, r = 1 ∨ r = 4 ∨ r = 8 ∨ r = 13 → (kSh k q).2.1 r (q.1 1) = 0 := by
      intro r hr
      rw [kSh_Q, if_pos rfl, if_neg (by omega), if_pos (by omega)]
    simp only [and_true, Nat.lt_irrefl, if_false, Nat.lt_succ_self, if_true, h6, and_false, r0, rz 1 (by omega), rz 4 (by omega), rz 8 (by omega), rz 13 (by omega)]
    by_cases a0 : j = c
    · subst a0
      by_cases e16 : q.1 1 = 16
      · simp [e16]
      · simp [e16]
    · by_cases a9 : j = c + 9
      · subst a9; simp
      · by_cases a10 : j = c + 10
        · subst a10; simp [m1_z]
        · by_cases a11 : j = c + 11
          · subst a11; simp [nI_0]
          · by_cases a12 : j = c + 12
            · subst a12; simp [m1_z]
            · by_cases a13 : j = c + 13
              · subst a13; simp [nI_0]
              · by_cases a14 : j = c + 14
                · subst a14; simp [m1_z]
                · simp [a0, a9, a10, a11, a12, a13, a14]
  · have e : (i < q.1 1 + 1) = (i < q.1 1) := by apply propext; omega
    have hr : ∀ r, (kSh k q).2.1 r i = q.2.1 r i := fun r => by rw [kSh_Q, if_neg hi]
    simp only [hi, and_false, if_false, e, hr]
    by_cases a0 : j = c
    · subst a0
      by_cases e16 : i = 16
      · simp [e16]
      · simp [e16]
    · simp [a0]
end
