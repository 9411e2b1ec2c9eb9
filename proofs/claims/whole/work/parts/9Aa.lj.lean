/-! the lake's Text: the rows of a reading, laid over a state -/
def lJ (p : jP) (s : aT) : aT :=
  (fun k i =>
    if k = 13 then (if i = 14 then nI p.1 else if i = 7 then nI p.2.1 else s.1 k i)
    else if k = 20 then (if i = 1 then nI p.2.2.1 else s.1 k i)
    else if k = 14 then (if i < p.2.1 then nI (p.2.2.2.1 0 i) else s.1 k i)
    else if k = 15 then (if i < p.2.1 then nI (p.2.2.2.1 1 i) else s.1 k i)
    else if k = 16 then (if i < p.2.1 then (if p.2.2.2.1 0 i = 2 then nI (p.2.2.2.1 5 i) else zI (p.2.2.2.1 3 i)) else s.1 k i)
    else if k = 17 then (if i < p.2.1 then nI (if p.2.2.2.1 0 i = 3 then 0 else p.2.2.2.1 2 i) else s.1 k i)
    else if k = 18 then (if i < p.2.1 then zI (p.2.2.2.1 4 i) else s.1 k i)
    else if k = 21 then (if i < p.2.2.1 then mI (p.2.2.2.1 6 i) else s.1 k i)
    else s.1 k i,
   fun k i => if k = 19 then (if i < p.2.1 ∧ p.2.2.2.1 0 i = 3 then Int64.ofInt (p.2.2.2.2 i) else s.2.1 k i) else s.2.1 k i,
   s.2.2)
section
variable {p : jP} {s : aT}
theorem lJ_at : gI (lJ p s) 13 14 = nI p.1 := by simp [gI, lJ]
theorem lJ_n : gI (lJ p s) 13 7 = nI p.2.1 := by simp [gI, lJ]
theorem lJ_l : gI (lJ p s) 20 1 = nI p.2.2.1 := by simp [gI, lJ]
theorem lJ_f {f : Nat} (h : f ≠ 14 ∧ f ≠ 7) : gI (lJ p s) 13 f = gI s 13 f := by simp [gI, lJ, h]
theorem lJ_K {i : Nat} (h : i < p.2.1) : gI (lJ p s) 14 i = nI (p.2.2.2.1 0 i) := by simp [gI, lJ, h]
theorem lJ_F {i : Nat} (h : i < p.2.1) : gI (lJ p s) 15 i = nI (p.2.2.2.1 1 i) := by simp [gI, lJ, h]
theorem lJ_S {i : Nat} (h : i < p.2.1) (h2 : p.2.2.2.1 0 i = 2) : gI (lJ p s) 16 i = nI (p.2.2.2.1 5 i) := by simp [gI, lJ, h, h2]
theorem lJ_I {i : Nat} (h : i < p.2.1) (h2 : p.2.2.2.1 0 i ≠ 2) : gI (lJ p s) 16 i = zI (p.2.2.2.1 3 i) := by simp [gI, lJ, h, h2]
theorem lJ_Z {i : Nat} (h : i < p.2.1) (h2 : p.2.2.2.1 0 i ≠ 3) : gI (lJ p s) 17 i = nI (p.2.2.2.1 2 i) := by simp [gI, lJ, h, h2]
theorem lJ_X {i : Nat} (h : i < p.2.1) : gI (lJ p s) 18 i = zI (p.2.2.2.1 4 i) := by simp [gI, lJ, h]
theorem lJ_L {i : Nat} (h : i < p.2.2.1) : gI (lJ p s) 21 i = mI (p.2.2.2.1 6 i) := by simp [gI, lJ, h]
theorem lJ_N {i : Nat} (h : i < p.2.1) (h2 : p.2.2.2.1 0 i = 3) : gL (lJ p s) 19 i = Int64.ofInt (p.2.2.2.2 i) := by simp [gL, lJ, h, h2]
theorem lJ_far {k i : Nat} (h : k ≠ 13 ∧ k ≠ 20 ∧ k ≠ 14 ∧ k ≠ 15 ∧ k ≠ 16 ∧ k ≠ 17 ∧ k ≠ 18 ∧ k ≠ 21) : gI (lJ p s) k i = gI s k i := by simp [gI, lJ, h]
theorem lJ_farL {k i : Nat} (h : k ≠ 19) : gL (lJ p s) k i = gL s k i := by simp [gL, lJ, h]
theorem lJ_M : gM0 (lJ p s) = gM0 s := rfl
theorem lJ_to {a : Nat} : pI (lJ p s) 13 14 (nI a) = lJ (jTo p a) s := by
  refine aT_ext (fun k i => ?_) (fun k i => ?_) rfl
  · rw [gI_pI]
    by_cases hk : k = 13
    · subst hk
      by_cases hi : i = 14
      · subst hi; simp [gI, lJ, jTo]
      · simp [gI, lJ, jTo, hi]
    · rw [if_neg (by simp [hk])]
      simp only [gI, lJ, jTo, if_neg hk]
      rfl
  · rfl
theorem lJ_pI {f : Nat} {v : Int32} (h : f ≠ 14 ∧ f ≠ 7) : pI (lJ p s) 13 f v = lJ p (pI s 13 f v) := by
  refine aT_ext (fun k i => ?_) (fun k i => ?_) rfl
  · rw [gI_pI]
    by_cases hk : k = 13
    · subst hk
      by_cases hi : i = f
      · subst hi; simp [gI, lJ, pI, a2, h]
      · simp [gI, lJ, pI, a2, hi]
    · simp [gI, lJ, pI, a2, hk]
  · rfl
theorem lJ_setI {i x : Nat} (hi : i < p.2.1) (h2 : p.2.2.2.1 0 i ≠ 2) : pI (lJ p s) 16 i (zI x) = lJ (jSe p 3 i x) s := by
  refine aT_ext (fun k j => ?_) (fun k j => ?_) rfl
  · rw [gI_pI]
    simp only [gI, lJ, jSe, a2_ite]
    by_cases hk : k = 16
    · subst hk
      by_cases hj : j = i
      · subst hj; simp [hi, h2]
      · simp [hj]
    · simp [hk]
  · simp [gL, lJ, jSe, pI, a2_ite]
theorem lJ_setS {i x : Nat} (hi : i < p.2.1) (h2 : p.2.2.2.1 0 i = 2) : pI (lJ p s) 16 i (nI x) = lJ (jSe p 5 i x) s := by
  refine aT_ext (fun k j => ?_) (fun k j => ?_) rfl
  · rw [gI_pI]
    simp only [gI, lJ, jSe, a2_ite]
    by_cases hk : k = 16
    · subst hk
      by_cases hj : j = i
      · subst hj; simp [hi, h2]
      · simp [hj]
    · simp [hk]
  · simp [gL, lJ, jSe, pI, a2_ite]
theorem lJ_setX {i x : Nat} (hi : i < p.2.1) : pI (lJ p s) 18 i (zI x) = lJ (jSe p 4 i x) s := by
  refine aT_ext (fun k j => ?_) (fun k j => ?_) rfl
  · rw [gI_pI]
    simp only [gI, lJ, jSe, a2_ite]
    by_cases hk : k = 18
    · subst hk
      by_cases hj : j = i
      · subst hj; simp [hi]
      · simp [hj]
    · simp [hk]
  · simp [gL, lJ, jSe, pI, a2_ite]
theorem lJ_setZ {i z : Nat} (hi : i < p.2.1) (h0 : p.2.2.2.1 0 i ≠ 3) : pI (lJ p s) 17 i (nI z) = lJ (jSe p 2 i z) s := by
  refine aT_ext (fun k j => ?_) (fun k j => ?_) rfl
  · rw [gI_pI]
    simp only [gI, lJ, jSe, a2_ite]
    by_cases hk : k = 17
    · subst hk
      by_cases hj : j = i
      · subst hj; simp [hi, h0]
      · simp [hj]
    · simp [hk]
  · simp [gL, lJ, jSe, pI, a2_ite]
/-- a number's digits are not counted there -/
theorem lJ_setZ3 {i z : Nat} (h0 : p.2.2.2.1 0 i = 3) : lJ (jSe p 2 i z) s = lJ p s := by
  refine aT_ext (fun k j => ?_) (fun k j => ?_) rfl
  · simp only [gI, lJ, jSe, a2_ite]
    by_cases hk : k = 17
    · subst hk
      by_cases hj : j = i
      · subst hj; simp [h0]
      · simp [hj]
    · simp [hk]
  · simp [gL, lJ, jSe, a2_ite]
theorem lJ_set7 {i z : Nat} : lJ (jSe p 7 i z) s = lJ p s := by
  refine aT_ext (fun k j => ?_) (fun k j => ?_) rfl
  · simp [gI, lJ, jSe, a2_ite]
  · simp [gL, lJ, jSe, a2_ite]
/-- a new value; its number is what stood there -/
def jNg (k : Nat) (g : Int) (p : jP) : jP := (p.1, p.2.1 + 1, p.2.2.1, (jNd k p).2.2.2.1, fun i => if i = p.2.1 then g else p.2.2.2.2 i)
theorem lJ_ng {k : Nat} (hk : k ≠ 3) {g : Int} : lJ (jNg k g p) s = lJ (jNd k p) s := by
  refine aT_ext (fun q i => ?_) (fun q i => ?_) rfl
  · rfl
  · show (if q = 19 then (if i < p.2.1 + 1 ∧ (jNd k p).2.2.2.1 0 i = 3 then _ else _) else _) = (if q = 19 then (if i < p.2.1 + 1 ∧ (jNd k p).2.2.2.1 0 i = 3 then _ else _) else _)
    split
    · split
      · rename_i h1 h2
        have : i ≠ p.2.1 := by
          intro e
          have h3 := h2.2
          rw [jNd_row, if_pos e] at h3
          simp at h3
          exact hk h3
        simp [jNg, jNd, this]
      · rfl
    · rfl
theorem lJ_nd {k : Nat} (hk : k ≠ 2) : pI (pI (pI (pI (pI (pI (lJ p s) 13 7 (nI p.2.1 + 1)) 14 p.2.1 (nI k)) 15 p.2.1 (nI p.1)) 16 p.2.1 (-1)) 17 p.2.1 0) 18 p.2.1 (-1) = lJ (jNg k (gL s 19 p.2.1).toInt p) s := by
  refine aT_ext (fun q i => ?_) (fun q i => ?_) rfl
  · simp only [gI_pI]
    simp only [gI, lJ, jNg, jNd, a2_ite]
    by_cases hi : i = p.2.1
    · subst hi
      simp only [and_true, Nat.lt_irrefl, if_false, Nat.lt_succ_self, if_true]
      by_cases h0 : q = 13
      · subst h0
        by_cases e7 : p.2.1 = 7
        · simp [e7, nI_add1]
        · simp [e7]
      · by_cases h7 : q = 18
        · subst h7; simp [m1_z]
        · by_cases h6 : q = 17
          · subst h6; simp [nI_0]
          · by_cases h5 : q = 16
            · subst h5; simp [m1_z, hk]
            · by_cases h3 : q = 15
              · subst h3; simp
              · by_cases h2 : q = 14
                · subst h2; simp
                · simp [h0, h2, h3, h5, h6, h7]
    · have e : (i < p.2.1 + 1) = (i < p.2.1) := by apply propext; omega
      simp [hi, e]
      by_cases h0 : q = 13
      · subst h0; by_cases h7 : i = 7 <;> simp [h7, nI_add1]
      · simp [h0]
  · simp only [gL_pI]
    simp only [gL, lJ, jNg, jNd, a2_ite]
    by_cases hi : i = p.2.1
    · subst hi
      by_cases h4 : q = 19
      · subst h4
        simp
      · simp [h4]
    · have e : (i < p.2.1 + 1) = (i < p.2.1) := by apply propext; omega
      simp [hi, e]
theorem lJ_nd2 {x : Nat} : pI (pI (pI (pI (pI (pI (pI (lJ p s) 13 7 (nI p.2.1 + 1)) 14 p.2.1 (nI 2)) 15 p.2.1 (nI p.1)) 16 p.2.1 (-1)) 17 p.2.1 0) 18 p.2.1 (-1)) 16 p.2.1 (nI x) = lJ (jSe (jNd 2 p) 5 p.2.1 x) s := by
  refine aT_ext (fun q i => ?_) (fun q i => ?_) rfl
  · simp only [gI_pI]
    simp only [gI, lJ, jSe, jNd, a2_ite]
    by_cases hi : i = p.2.1
    · subst hi
      simp only [and_true, Nat.lt_irrefl, if_false, Nat.lt_succ_self, if_true]
      by_cases h0 : q = 13
      · subst h0
        by_cases e7 : p.2.1 = 7
        · simp [e7, nI_add1]
        · simp [e7]
      · by_cases h7 : q = 18
        · subst h7; simp [m1_z]
        · by_cases h6 : q = 17
          · subst h6; simp [nI_0]
          · by_cases h5 : q = 16
            · subst h5; simp
            · by_cases h3 : q = 15
              · subst h3; simp
              · by_cases h2 : q = 14
                · subst h2; simp
                · simp [h0, h2, h3, h5, h6, h7]
    · have e : (i < p.2.1 + 1) = (i < p.2.1) := by apply propext; omega
      simp [hi, e]
      by_cases h0 : q = 13
      · subst h0; by_cases h7 : i = 7 <;> simp [h7, nI_add1]
      · simp [h0]
  · simp only [gL_pI]
    simp only [gL, lJ, jSe, jNd, a2_ite]
    by_cases hi : i = p.2.1
    · subst hi
      by_cases h4 : q = 19
      · subst h4
        simp
      · simp [h4]
    · have e : (i < p.2.1 + 1) = (i < p.2.1) := by apply propext; omega
      simp [hi, e]
end
