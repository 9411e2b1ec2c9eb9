/-! the lake's Schemas: the rows of a text's schemas, laid behind those that are kept -/
def lo (b y : Nat) : Nat := if y < 6 then y else y - 6 + b
def zL (b x : Nat) : Int32 := if x = 0 then -1 else nI (lo b (x - 1))
def zQ (qb x : Nat) : Int32 := if x = 0 then -1 else nI (qb + (x - 1))
def lS (b pb qb : Nat) (q : kP) (s : aT) : aT :=
  (fun k i =>
    if k = 22 then (if i = 14 then nI (b + (q.1 1 - 6)) else if i = 15 then nI (pb + q.1 3) else s.1 k i)
    else if k = 32 then (if i = 1 then nI (qb + q.1 6) else s.1 k i)
    else if k = 37 then (if i = 5 then nI (q.1 0) else s.1 k i)
    else if k = 38 then (if i = 4 then nI (q.1 5) else s.1 k i)
    else if k = 23 then (if b ≤ i ∧ i < b + (q.1 1 - 6) then nI (q.2.1 0 (i - b + 6)) else s.1 k i)
    else if k = 24 then (if b ≤ i ∧ i < b + (q.1 1 - 6) then (if q.2.1 1 (i - b + 6) = 0 then -1 else nI (qb + q.2.1 9 (i - b + 6))) else s.1 k i)
    else if k = 25 then (if b ≤ i ∧ i < b + (q.1 1 - 6) then nI (pb + q.2.1 6 (i - b + 6)) else s.1 k i)
    else if k = 26 then (if b ≤ i ∧ i < b + (q.1 1 - 6) then nI (q.2.1 7 (i - b + 6)) else s.1 k i)
    else if k = 27 then (if b ≤ i ∧ i < b + (q.1 1 - 6) then (if q.2.1 0 (i - b + 6) = 6 ∨ q.2.1 0 (i - b + 6) = 7 then zL b (q.2.1 18 (i - b + 6)) else zI (q.2.1 8 (i - b + 6))) else s.1 k i)
    else if k = 28 then (if pb ≤ i ∧ i < pb + q.1 3 then zQ qb (q.2.1 31 (i - pb)) else s.1 k i)
    else if k = 29 then (if pb ≤ i ∧ i < pb + q.1 3 then zL b (q.2.1 30 (i - pb)) else s.1 k i)
    else if k = 30 then (if pb ≤ i ∧ i < pb + q.1 3 then zQ qb (q.2.1 32 (i - pb)) else s.1 k i)
    else if k = 31 then (if pb ≤ i ∧ i < pb + q.1 3 then nI (q.2.1 33 (i - pb)) else s.1 k i)
    else if k = 33 then (if qb ≤ i ∧ i < qb + q.1 6 then mI (q.2.1 40 (i - qb)) else s.1 k i)
    else if k = 39 then (if i < q.1 5 then nI (q.2.1 16 i) else s.1 k i)
    else if k = 40 then (if i < q.1 5 then nI (pb + q.2.1 17 i) else s.1 k i)
    else s.1 k i, s.2)
section
variable {b pb qb : Nat} {q : kP} {s : aT}
theorem lS_ns : gI (lS b pb qb q s) 22 14 = nI (b + (q.1 1 - 6)) := by simp [gI, lS]
theorem lS_np : gI (lS b pb qb q s) 22 15 = nI (pb + q.1 3) := by simp [gI, lS]
theorem lS_22 {f : Nat} (h : f ≠ 14 ∧ f ≠ 15) : gI (lS b pb qb q s) 22 f = gI s 22 f := by simp [gI, lS, h]
theorem lS_pool : gI (lS b pb qb q s) 32 1 = nI (qb + q.1 6) := by simp [gI, lS]
theorem lS_lk : gI (lS b pb qb q s) 37 5 = nI (q.1 0) := by simp [gI, lS]
theorem lS_37 {f : Nat} (h : f ≠ 5) : gI (lS b pb qb q s) 37 f = gI s 37 f := by simp [gI, lS, h]
theorem lS_nw : gI (lS b pb qb q s) 38 4 = nI (q.1 5) := by simp [gI, lS]
theorem lS_far {k i : Nat} (h : k < 22 ∨ 34 ≤ k ∧ k ≤ 36 ∨ 41 ≤ k) : gI (lS b pb qb q s) k i = gI s k i := by
  have e : ∀ j, (22 ≤ j ∧ j ≤ 33 ∨ 37 ≤ j ∧ j ≤ 40) → ¬ k = j := fun j hj => by omega
  simp [gI, lS, e 22 (by omega), e 23 (by omega), e 24 (by omega), e 25 (by omega), e 26 (by omega), e 27 (by omega), e 28 (by omega), e 29 (by omega), e 30 (by omega), e 31 (by omega), e 32 (by omega), e 33 (by omega), e 37 (by omega), e 38 (by omega), e 39 (by omega), e 40 (by omega)]
theorem lS_L {k i : Nat} : gL (lS b pb qb q s) k i = gL s k i := rfl
theorem lS_U : pU (lS b pb qb q s) = lS b pb qb q (pU s) := rfl
theorem lo_ix {t : Nat} (h6 : 6 ≤ t) (ht : t < q.1 1) : lo b t = t - 6 + b ∧ (b ≤ lo b t ∧ lo b t < b + (q.1 1 - 6)) ∧ lo b t - b + 6 = t := by
  unfold lo
  rw [if_neg (by omega)]
  omega
theorem lS_23 {t : Nat} (h6 : 6 ≤ t) (ht : t < q.1 1) : gI (lS b pb qb q s) 23 (lo b t) = nI (q.2.1 0 t) := by
  obtain ⟨_, h, e⟩ := lo_ix (b := b) h6 ht
  simp [gI, lS, h, e]
theorem lS_24 {t : Nat} (h6 : 6 ≤ t) (ht : t < q.1 1) : gI (lS b pb qb q s) 24 (lo b t) = if q.2.1 1 t = 0 then -1 else nI (qb + q.2.1 9 t) := by
  obtain ⟨_, h, e⟩ := lo_ix (b := b) h6 ht
  simp [gI, lS, h, e]
theorem lS_25 {t : Nat} (h6 : 6 ≤ t) (ht : t < q.1 1) : gI (lS b pb qb q s) 25 (lo b t) = nI (pb + q.2.1 6 t) := by
  obtain ⟨_, h, e⟩ := lo_ix (b := b) h6 ht
  simp [gI, lS, h, e]
theorem lS_26 {t : Nat} (h6 : 6 ≤ t) (ht : t < q.1 1) : gI (lS b pb qb q s) 26 (lo b t) = nI (q.2.1 7 t) := by
  obtain ⟨_, h, e⟩ := lo_ix (b := b) h6 ht
  simp [gI, lS, h, e]
theorem lS_27 {t : Nat} (h6 : 6 ≤ t) (ht : t < q.1 1) : gI (lS b pb qb q s) 27 (lo b t) = if q.2.1 0 t = 6 ∨ q.2.1 0 t = 7 then zL b (q.2.1 18 t) else zI (q.2.1 8 t) := by
  obtain ⟨_, h, e⟩ := lo_ix (b := b) h6 ht
  simp [gI, lS, h, e]
theorem lS_lo {k i : Nat} (hk : 23 ≤ k ∧ k ≤ 27) (hi : i < b) : gI (lS b pb qb q s) k i = gI s k i := by
  have e : ¬ b ≤ i := by omega
  have : k = 23 ∨ k = 24 ∨ k = 25 ∨ k = 26 ∨ k = 27 := by omega
  rcases this with rfl | rfl | rfl | rfl | rfl <;> simp [gI, lS, e]
theorem lS_28 {j : Nat} (h : j < q.1 3) : gI (lS b pb qb q s) 28 (pb + j) = zQ qb (q.2.1 31 j) := by
  simp [gI, lS, h]
theorem lS_29 {j : Nat} (h : j < q.1 3) : gI (lS b pb qb q s) 29 (pb + j) = zL b (q.2.1 30 j) := by
  simp [gI, lS, h]
theorem lS_30 {j : Nat} (h : j < q.1 3) : gI (lS b pb qb q s) 30 (pb + j) = zQ qb (q.2.1 32 j) := by
  simp [gI, lS, h]
theorem lS_31 {j : Nat} (h : j < q.1 3) : gI (lS b pb qb q s) 31 (pb + j) = nI (q.2.1 33 j) := by
  simp [gI, lS, h]
theorem lS_33 {j : Nat} (h : j < q.1 6) : gI (lS b pb qb q s) 33 (qb + j) = mI (q.2.1 40 j) := by
  simp [gI, lS, h]
theorem lS_39 {j : Nat} (h : j < q.1 5) : gI (lS b pb qb q s) 39 j = nI (q.2.1 16 j) := by
  simp [gI, lS, h]
theorem lS_40 {j : Nat} (h : j < q.1 5) : gI (lS b pb qb q s) 40 j = nI (pb + q.2.1 17 j) := by
  simp [gI, lS, h]
theorem lS_T {T : Nat → Nat → Nat} {N : Nat → Int} {m l : Nat} (h : lT s T N m l) : lT (lS b pb qb q s) T N m l := by
  refine ⟨fun i hi => ?_, fun i hi => ?_, ?_⟩
  · have a := h.1 i hi
    rw [lS_far (by omega), lS_far (by omega), lS_far (by omega), lS_far (by omega), lS_far (by omega), lS_L]
    exact a
  · rw [lS_far (by omega)]
    exact h.2.1 i hi
  · rw [lS_far (by omega)]
    exact h.2.2
/-- two overlays are the same when the rows that they show are -/
theorem lS_ext {q' : kP} (hc : ∀ k, k = 0 ∨ k = 1 ∨ k = 3 ∨ k = 5 ∨ k = 6 → q'.1 k = q.1 k) (hr : ∀ r i, r = 0 ∨ r = 1 ∨ r = 6 ∨ r = 7 ∨ r = 8 ∨ r = 9 ∨ r = 18 → i < q.1 1 → q'.2.1 r i = q.2.1 r i) (hp : ∀ r i, 30 ≤ r → r ≤ 33 → i < q.1 3 → q'.2.1 r i = q.2.1 r i) (hq : ∀ i, i < q.1 6 → q'.2.1 40 i = q.2.1 40 i) (hw : ∀ r i, r = 16 ∨ r = 17 → i < q.1 5 → q'.2.1 r i = q.2.1 r i) : lS b pb qb q' s = lS b pb qb q s := by
  refine aT_ext (fun k i => ?_) (fun k i => rfl) rfl
  simp only [gI, lS, hc 0 (by omega), hc 1 (by omega), hc 3 (by omega), hc 5 (by omega), hc 6 (by omega)]
  by_cases k23 : 23 ≤ k ∧ k ≤ 27
  · by_cases a : b ≤ i ∧ i < b + (q.1 1 - 6)
    · have e := fun r hr2 => hr r (i - b + 6) hr2 (by omega)
      simp only [e 0 (by omega), e 1 (by omega), e 6 (by omega), e 7 (by omega), e 8 (by omega), e 9 (by omega), e 18 (by omega)]
      have : k = 23 ∨ k = 24 ∨ k = 25 ∨ k = 26 ∨ k = 27 := by omega
      rcases this with rfl | rfl | rfl | rfl | rfl <;> simp
    · simp only [a, if_false]
      have : k = 23 ∨ k = 24 ∨ k = 25 ∨ k = 26 ∨ k = 27 := by omega
      rcases this with rfl | rfl | rfl | rfl | rfl <;> simp
  · by_cases k28 : 28 ≤ k ∧ k ≤ 31
    · by_cases a : pb ≤ i ∧ i < pb + q.1 3
      · have e := fun r h1 h2 => hp r (i - pb) h1 h2 (by omega)
        simp only [e 30 (by omega) (by omega), e 31 (by omega) (by omega), e 32 (by omega) (by omega), e 33 (by omega) (by omega)]
        have : k = 28 ∨ k = 29 ∨ k = 30 ∨ k = 31 := by omega
        rcases this with rfl | rfl | rfl | rfl <;> simp
      · simp only [a, if_false]
        have : k = 28 ∨ k = 29 ∨ k = 30 ∨ k = 31 := by omega
        rcases this with rfl | rfl | rfl | rfl <;> simp
    · have n : ∀ j, 23 ≤ j → j ≤ 31 → ¬ k = j := fun j a b => by omega
      simp only [n 23 (by omega) (by omega), n 24 (by omega) (by omega), n 25 (by omega) (by omega), n 26 (by omega) (by omega), n 27 (by omega) (by omega), n 28 (by omega) (by omega), n 29 (by omega) (by omega), n 30 (by omega) (by omega), n 31 (by omega) (by omega), if_false]
      by_cases k33 : k = 33
      · subst k33
        by_cases a : qb ≤ i ∧ i < qb + q.1 6
        · simp [a, hq (i - qb) (by omega)]
        · simp [a]
      · by_cases k39 : k = 39
        · subst k39
          by_cases a : i < q.1 5
          · simp [a, hw 16 i (by omega) a]
          · simp [a]
        · by_cases k40 : k = 40
          · subst k40
            by_cases a : i < q.1 5
            · simp [a, hw 17 i (by omega) a]
            · simp [a]
          · simp [k33, k39, k40]
theorem lS_w {q' : kP} {k0 i0 : Nat} {v : Int32} (h : ∀ k i, gI (lS b pb qb q' s) k i = if k = k0 ∧ i = i0 then v else gI (lS b pb qb q s) k i) : pI (lS b pb qb q s) k0 i0 v = lS b pb qb q' s := by
  refine aT_ext (fun k i => ?_) (fun k i => rfl) rfl
  rw [gI_pI, h]
theorem lS_c0 {v : Nat} : pI (lS b pb qb q s) 37 5 (nI v) = lS b pb qb (kC q 0 v) s := by
  refine lS_w (fun k i => ?_)
  have h0 : (kC q 0 v).1 0 = v := rfl
  have h1 : (kC q 0 v).1 1 = q.1 1 := rfl
  have h3 : (kC q 0 v).1 3 = q.1 3 := rfl
  have h5 : (kC q 0 v).1 5 = q.1 5 := rfl
  have h6 : (kC q 0 v).1 6 = q.1 6 := rfl
  have hQ : (kC q 0 v).2.1 = q.2.1 := rfl
  simp only [gI, lS, h0, h1, h3, h5, h6, hQ]
  by_cases hk : k = 37
  · subst hk
    by_cases hi : i = 5
    · subst hi; simp
    · simp [hi]
  · simp [hk]
theorem lS_w29 {j x : Nat} (hj : j < q.1 3) : pI (lS b pb qb q s) 29 (pb + j) (zL b x) = lS b pb qb (kQ q 30 j x) s := by
  refine lS_w (fun k i => ?_)
  simp only [gI, lS, kQ, a2_ite]
  by_cases hk : k = 29
  · subst hk
    by_cases hi : i = pb + j
    · subst hi; simp [hj]
    · by_cases a : pb ≤ i ∧ i < pb + q.1 3
      · have : ¬ i - pb = j := by omega
        simp [hi, this]
      · simp [hi, a]
  · simp [hk]
theorem lS_w28 {j x : Nat} (hj : j < q.1 3) : pI (lS b pb qb q s) 28 (pb + j) (zQ qb x) = lS b pb qb (kQ q 31 j x) s := by
  refine lS_w (fun k i => ?_)
  simp only [gI, lS, kQ, a2_ite]
  by_cases hk : k = 28
  · subst hk
    by_cases hi : i = pb + j
    · subst hi; simp [hj]
    · by_cases a : pb ≤ i ∧ i < pb + q.1 3
      · have : ¬ i - pb = j := by omega
        simp [hi, this]
      · simp [hi, a]
  · simp [hk]
theorem lS_w27a {t x : Nat} (h6 : 6 ≤ t) (ht : t < q.1 1) (h0 : q.2.1 0 t = 6 ∨ q.2.1 0 t = 7) : pI (lS b pb qb q s) 27 (lo b t) (zL b x) = lS b pb qb (kQ q 18 t x) s := by
  obtain ⟨el, h, e⟩ := lo_ix (b := b) h6 ht
  refine lS_w (fun k i => ?_)
  simp only [gI, lS, kQ, a2_ite]
  by_cases hk : k = 27
  · subst hk
    by_cases hi : i = lo b t
    · subst hi; simp [h, e, h0]
    · by_cases a : b ≤ i ∧ i < b + (q.1 1 - 6)
      · have : ¬ i - b + 6 = t := by omega
        simp [hi, this]
      · simp [hi, a]
  · simp [hk]
theorem lS_w27b {t x : Nat} (h6 : 6 ≤ t) (ht : t < q.1 1) (h0 : ¬ (q.2.1 0 t = 6 ∨ q.2.1 0 t = 7)) : pI (lS b pb qb q s) 27 (lo b t) (zI x) = lS b pb qb (kQ q 8 t x) s := by
  obtain ⟨el, h, e⟩ := lo_ix (b := b) h6 ht
  refine lS_w (fun k i => ?_)
  simp only [gI, lS, kQ, a2_ite]
  by_cases hk : k = 27
  · subst hk
    by_cases hi : i = lo b t
    · subst hi; simp [h, e, h0]
    · by_cases a : b ≤ i ∧ i < b + (q.1 1 - 6)
      · have : ¬ i - b + 6 = t := by omega
        simp [hi, this]
      · simp [hi, a]
  · simp [hk]
theorem lS_w24 {t x y : Nat} (h6 : 6 ≤ t) (ht : t < q.1 1) : pI (lS b pb qb q s) 24 (lo b t) (nI (qb + y)) = lS b pb qb (kQ (kQ q 1 t (x + 1)) 9 t y) s := by
  obtain ⟨el, h, e⟩ := lo_ix (b := b) h6 ht
  refine lS_w (fun k i => ?_)
  simp only [gI, lS, kQ, a2_ite]
  by_cases hk : k = 24
  · subst hk
    by_cases hi : i = lo b t
    · subst hi; simp [h, e]
    · by_cases a : b ≤ i ∧ i < b + (q.1 1 - 6)
      · have : ¬ i - b + 6 = t := by omega
        simp [hi, this]
      · simp [hi, a]
  · simp [hk]
theorem lS_wt {x y : Nat} : pI (pI (pI (lS b pb qb q s) 40 (q.1 5) (nI (pb + y))) 39 (q.1 5) (nI x)) 38 4 (nI (q.1 5 + 1)) = lS b pb qb (kC (kQ (kQ q 16 (q.1 5) x) 17 (q.1 5) y) 5 (q.1 5 + 1)) s := by
  refine aT_ext (fun k i => ?_) (fun k i => rfl) rfl
  simp only [gI_pI]
  have c0 : (kC (kQ (kQ q 16 (q.1 5) x) 17 (q.1 5) y) 5 (q.1 5 + 1)).1 0 = q.1 0 := rfl
  have c1 : (kC (kQ (kQ q 16 (q.1 5) x) 17 (q.1 5) y) 5 (q.1 5 + 1)).1 1 = q.1 1 := rfl
  have c3 : (kC (kQ (kQ q 16 (q.1 5) x) 17 (q.1 5) y) 5 (q.1 5 + 1)).1 3 = q.1 3 := rfl
  have c5 : (kC (kQ (kQ q 16 (q.1 5) x) 17 (q.1 5) y) 5 (q.1 5 + 1)).1 5 = q.1 5 + 1 := rfl
  have c6 : (kC (kQ (kQ q 16 (q.1 5) x) 17 (q.1 5) y) 5 (q.1 5 + 1)).1 6 = q.1 6 := rfl
  have cQ : ∀ r i, (kC (kQ (kQ q 16 (q.1 5) x) 17 (q.1 5) y) 5 (q.1 5 + 1)).2.1 r i = if r = 17 ∧ i = q.1 5 then y else if r = 16 ∧ i = q.1 5 then x else q.2.1 r i := fun r i => by rw [kC_Q, kQ_Q, kQ_Q]
  simp only [gI, lS, c0, c1, c3, c5, c6, cQ]
  by_cases k38 : k = 38
  · subst k38
    by_cases hi : i = 4
    · subst hi; simp
    · simp [hi]
  · by_cases k39 : k = 39
    · subst k39
      by_cases hi : i = q.1 5
      · subst hi; simp
      · have e : (i < q.1 5 + 1) = (i < q.1 5) := by apply propext; omega
        simp [hi, e]
    · by_cases k40 : k = 40
      · subst k40
        by_cases hi : i = q.1 5
        · subst hi; simp
        · have e : (i < q.1 5 + 1) = (i < q.1 5) := by apply propext; omega
          simp [hi, e]
      · simp [k38, k39, k40]
theorem lS_sh {k : Nat} (h6 : 6 ≤ q.1 1) : pI (pI (pI (pI (pI (pI (lS b pb qb q s) 22 14 (nI (b + (q.1 1 - 6) + 1))) 23 (b + (q.1 1 - 6)) (nI k)) 24 (b + (q.1 1 - 6)) (-1)) 25 (b + (q.1 1 - 6)) (nI (pb + q.1 3))) 26 (b + (q.1 1 - 6)) 0) 27 (b + (q.1 1 - 6)) (-1) = lS b pb qb (kSh k q) s := by
  have c0 : (kSh k q).1 0 = q.1 0 := rfl
  have c1 : (kSh k q).1 1 = q.1 1 + 1 := rfl
  have c3 : (kSh k q).1 3 = q.1 3 := rfl
  have c5 : (kSh k q).1 5 = q.1 5 := rfl
  have c6 : (kSh k q).1 6 = q.1 6 := rfl
  have hk : ∀ r i, 14 ≤ r → r ≠ 18 → (kSh k q).2.1 r i = q.2.1 r i := by
    intro r i a b
    rw [kSh_Q]
    split
    · repeat' rw [if_neg (by omega)]
    · rfl
  have en : q.1 1 + 1 - 6 = q.1 1 - 6 + 1 := by omega
  refine aT_ext (fun j i => ?_) (fun j i => rfl) rfl
  simp only [gI_pI]
  simp only [gI, lS, c0, c1, c3, c5, c6, hk 31 _ (by omega) (by omega), hk 30 _ (by omega) (by omega), hk 32 _ (by omega) (by omega), hk 33 _ (by omega) (by omega), hk 40 _ (by omega) (by omega), hk 16 _ (by omega) (by omega), hk 17 _ (by omega) (by omega), en]
  by_cases hi : i = b + (q.1 1 - 6)
  · have e1 : i - b + 6 = q.1 1 := by omega
    have e2 : (b ≤ i ∧ i < b + (q.1 1 - 6 + 1)) = True := by apply propext; simp; omega
    have e3 : (b ≤ i ∧ i < b + (q.1 1 - 6)) = False := by apply propext; simp; omega
    have r0 : (kSh k q).2.1 0 (q.1 1) = k := by rw [kSh_Q, if_pos rfl, if_pos rfl]
    have rz : ∀ r, r = 1 ∨ r = 7 ∨ r = 8 ∨ r = 18 → (kSh k q).2.1 r (q.1 1) = 0 := by
      intro r hr
      rw [kSh_Q, if_pos rfl, if_neg (by omega), if_pos (by omega)]
    have r6 : (kSh k q).2.1 6 (q.1 1) = q.1 3 := by
      rw [kSh_Q, if_pos rfl, if_neg (by omega), if_neg (by omega), if_pos rfl]
    simp only [e1, e2, e3, r0, rz 1 (by omega), rz 7 (by omega), rz 8 (by omega), rz 18 (by omega), r6, if_true, if_false]
    by_cases a22 : j = 22
    · subst a22
      by_cases e14 : i = 14
      · simp [e14, Nat.add_assoc]
      · simp [e14]
    · by_cases a23 : j = 23
      · subst a23; simp [hi]
      · by_cases a24 : j = 24
        · subst a24; simp [hi]
        · by_cases a25 : j = 25
          · subst a25; simp [hi]
          · by_cases a26 : j = 26
            · subst a26; simp [hi, nI_0]
            · by_cases a27 : j = 27
              · subst a27; simp [hi, zL, zI_0]
              · simp [a22, a23, a24, a25, a26, a27]
  · have e : (b ≤ i ∧ i < b + (q.1 1 - 6 + 1)) = (b ≤ i ∧ i < b + (q.1 1 - 6)) := by apply propext; omega
    simp only [e, hi, and_false, if_false]
    by_cases a : b ≤ i ∧ i < b + (q.1 1 - 6)
    · have hr : ∀ r, (kSh k q).2.1 r (i - b + 6) = q.2.1 r (i - b + 6) := fun r => by rw [kSh_Q, if_neg (by omega)]
      simp only [hr, a]
      by_cases a22 : j = 22
      · subst a22
        by_cases e14 : i = 14
        · simp [e14, Nat.add_assoc]
        · simp [e14]
      · simp [a22]
    · simp only [a, if_false]
      by_cases a22 : j = 22
      · subst a22
        by_cases e14 : i = 14
        · simp [e14, Nat.add_assoc]
        · simp [e14]
      · simp [a22]
end
