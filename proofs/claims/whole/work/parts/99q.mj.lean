/-! the reference's Text: the rows of a reading, laid over a state -/
def mJ (c : Nat) (p : jP) (s : aT) : aT :=
  (fun k i =>
    if k = c then (if i = 2 then nI p.1 else if i = 7 then nI p.2.1 else if i = 15 then nI p.2.2.1 else s.1 k i)
    else if k = c + 2 then (if i < p.2.1 then nI (p.2.2.2.1 0 i) else s.1 k i)
    else if k = c + 3 then (if i < p.2.1 then nI (p.2.2.2.1 1 i) else s.1 k i)
    else if k = c + 5 then (if i < p.2.1 then nI (if p.2.2.2.1 0 i = 0 then 0 else p.2.2.2.1 2 i) else s.1 k i)
    else if k = c + 6 then (if i < p.2.1 then zI (p.2.2.2.1 3 i) else s.1 k i)
    else if k = c + 7 then (if i < p.2.1 then zI (p.2.2.2.1 4 i) else s.1 k i)
    else if k = c + 8 then (if i < p.2.2.1 then mI (p.2.2.2.1 6 i) else s.1 k i)
    else s.1 k i,
   fun k i => if k = c + 4 then (if i < p.2.1 then (if p.2.2.2.1 0 i = 2 then Int64.ofNat (p.2.2.2.1 5 i) else Int64.ofInt (p.2.2.2.2 i)) else s.2.1 k i) else s.2.1 k i,
   s.2.2)
section
variable {c : Nat} {p : jP} {s : aT}
theorem mJ_at : gI (mJ c p s) c 2 = nI p.1 := by simp [gI, mJ]
theorem mJ_n : gI (mJ c p s) c 7 = nI p.2.1 := by simp [gI, mJ]
theorem mJ_l : gI (mJ c p s) c 15 = nI p.2.2.1 := by simp [gI, mJ]
theorem mJ_f {f : Nat} (h : f ≠ 2 ∧ f ≠ 7 ∧ f ≠ 15) : gI (mJ c p s) c f = gI s c f := by simp [gI, mJ, h]
theorem mJ_1 {i : Nat} : gI (mJ c p s) (c + 1) i = gI s (c + 1) i := by simp [gI, mJ]
theorem mJ_K {i : Nat} (h : i < p.2.1) : gI (mJ c p s) (c + 2) i = nI (p.2.2.2.1 0 i) := by simp [gI, mJ, h]
theorem mJ_F {i : Nat} (h : i < p.2.1) : gI (mJ c p s) (c + 3) i = nI (p.2.2.2.1 1 i) := by simp [gI, mJ, h]
theorem mJ_Z {i : Nat} (h : i < p.2.1) : gI (mJ c p s) (c + 5) i = nI (if p.2.2.2.1 0 i = 0 then 0 else p.2.2.2.1 2 i) := by simp [gI, mJ, h]
theorem mJ_Z' {i : Nat} (h : i < p.2.1) (h0 : p.2.2.2.1 0 i ≠ 0) : gI (mJ c p s) (c + 5) i = nI (p.2.2.2.1 2 i) := by rw [mJ_Z h, if_neg h0]
theorem mJ_I {i : Nat} (h : i < p.2.1) : gI (mJ c p s) (c + 6) i = zI (p.2.2.2.1 3 i) := by simp [gI, mJ, h]
theorem mJ_X {i : Nat} (h : i < p.2.1) : gI (mJ c p s) (c + 7) i = zI (p.2.2.2.1 4 i) := by simp [gI, mJ, h]
theorem mJ_L {i : Nat} (h : i < p.2.2.1) : gI (mJ c p s) (c + 8) i = mI (p.2.2.2.1 6 i) := by simp [gI, mJ, h]
theorem mJ_S {i : Nat} (h : i < p.2.1) (h2 : p.2.2.2.1 0 i = 2) : gL (mJ c p s) (c + 4) i = Int64.ofNat (p.2.2.2.1 5 i) := by simp [gL, mJ, h, h2]
theorem mJ_N {i : Nat} (h : i < p.2.1) (h2 : p.2.2.2.1 0 i ≠ 2) : gL (mJ c p s) (c + 4) i = Int64.ofInt (p.2.2.2.2 i) := by simp [gL, mJ, h, h2]
theorem mJ_far {k i : Nat} (h : k ≠ c ∧ k ≠ c + 2 ∧ k ≠ c + 3 ∧ k ≠ c + 5 ∧ k ≠ c + 6 ∧ k ≠ c + 7 ∧ k ≠ c + 8) : gI (mJ c p s) k i = gI s k i := by simp [gI, mJ, h]
theorem mJ_farL {k i : Nat} (h : k ≠ c + 4) : gL (mJ c p s) k i = gL s k i := by simp [gL, mJ, h]
theorem mJ_U : pU (mJ c p s) = mJ c p (pU s) := rfl
theorem mJ_to {a : Nat} : pI (mJ c p s) c 2 (nI a) = mJ c (jTo p a) s := by
  refine aT_ext (fun k i => ?_) (fun k i => ?_) rfl
  · rw [gI_pI]
    by_cases hk : k = c
    · subst hk
      by_cases hi : i = 2
      · subst hi; simp [gI, mJ, jTo]
      · simp [gI, mJ, jTo, hi]
    · rw [if_neg (by simp [hk])]
      simp only [gI, mJ, jTo, if_neg hk]
      rfl
  · rfl
theorem mJ_pI {f : Nat} {v : Int32} (h : f ≠ 2 ∧ f ≠ 7 ∧ f ≠ 15) : pI (mJ c p s) c f v = mJ c p (pI s c f v) := by
  refine aT_ext (fun k i => ?_) (fun k i => ?_) rfl
  · rw [gI_pI]
    by_cases hk : k = c
    · subst hk
      by_cases hi : i = f
      · subst hi; simp [gI, mJ, pI, a2, h]
      · simp [gI, mJ, pI, a2, hi]
    · simp [gI, mJ, pI, a2, hk]
  · simp [gL, mJ, pI]
theorem mJ_setI {i x : Nat} (hi : i < p.2.1) : pI (mJ c p s) (c + 6) i (zI x) = mJ c (jSe p 3 i x) s := by
  refine aT_ext (fun k j => ?_) (fun k j => ?_) rfl
  · rw [gI_pI]
    simp only [gI, mJ, jSe, a2_ite]
    by_cases hk : k = c + 6
    · subst hk
      by_cases hj : j = i
      · subst hj; simp [hi]
      · simp [hj]
    · simp [hk]
  · simp [gL, mJ, jSe, pI, a2_ite]
theorem mJ_setX {i x : Nat} (hi : i < p.2.1) : pI (mJ c p s) (c + 7) i (zI x) = mJ c (jSe p 4 i x) s := by
  refine aT_ext (fun k j => ?_) (fun k j => ?_) rfl
  · rw [gI_pI]
    simp only [gI, mJ, jSe, a2_ite]
    by_cases hk : k = c + 7
    · subst hk
      by_cases hj : j = i
      · subst hj; simp [hi]
      · simp [hj]
    · simp [hk]
  · simp [gL, mJ, jSe, pI, a2_ite]
theorem mJ_setZ {i z : Nat} (hi : i < p.2.1) (h0 : p.2.2.2.1 0 i ≠ 0) : pI (mJ c p s) (c + 5) i (nI z) = mJ c (jSe p 2 i z) s := by
  refine aT_ext (fun k j => ?_) (fun k j => ?_) rfl
  · rw [gI_pI]
    simp only [gI, mJ, jSe, a2_ite]
    by_cases hk : k = c + 5
    · subst hk
      by_cases hj : j = i
      · subst hj; simp [hi, h0]
      · simp [hj]
    · simp [hk]
  · simp [gL, mJ, jSe, pI, a2_ite]
/-- an object's extent is not kept there -/
theorem mJ_setZ0 {i z : Nat} (h0 : p.2.2.2.1 0 i = 0) : mJ c (jSe p 2 i z) s = mJ c p s := by
  refine aT_ext (fun k j => ?_) (fun k j => ?_) rfl
  · simp only [gI, mJ, jSe, a2_ite]
    by_cases hk : k = c + 5
    · subst hk
      by_cases hj : j = i
      · subst hj; simp [h0]
      · simp [hj]
    · simp [hk]
  · simp [gL, mJ, jSe, a2_ite]
theorem mJ_set7 {i z : Nat} : mJ c (jSe p 7 i z) s = mJ c p s := by
  refine aT_ext (fun k j => ?_) (fun k j => ?_) rfl
  · simp [gI, mJ, jSe, a2_ite]
  · simp [gL, mJ, jSe, a2_ite]
theorem mJ_nd {k : Nat} : pI (pI (pI (pL (pI (pI (mJ c p s) (c + 2) p.2.1 (nI k)) (c + 3) p.2.1 (nI p.1)) (c + 4) p.2.1 0) (c + 5) p.2.1 0) (c + 6) p.2.1 (-1)) (c + 7) p.2.1 (-1) = pI (mJ c (jNd k p) s) c 7 (nI p.2.1) := by
  refine aT_ext (fun q i => ?_) (fun q i => ?_) rfl
  · simp only [gI_pI, gI_pL]
    simp only [gI, mJ, jNd, a2_ite]
    by_cases hi : i = p.2.1
    · subst hi
      simp only [and_true, Nat.lt_irrefl, if_false, Nat.lt_succ_self, if_true]
      by_cases h0 : q = c
      · subst h0
        by_cases e7 : p.2.1 = 7
        · simp [e7]
        · simp [e7]
      · by_cases h7 : q = c + 7
        · subst h7; simp [m1_z]
        · by_cases h6 : q = c + 6
          · subst h6; simp [m1_z]
          · by_cases h5 : q = c + 5
            · subst h5; simp [nI_0]
            · by_cases h3 : q = c + 3
              · subst h3; simp
              · by_cases h2 : q = c + 2
                · subst h2; simp
                · simp [h0, h2, h3, h5, h6, h7]
    · have e : (i < p.2.1 + 1) = (i < p.2.1) := by apply propext; omega
      simp [hi, e]
      by_cases h0 : q = c
      · subst h0; by_cases h7 : i = 7 <;> simp [h7]
      · simp [h0]
  · simp only [gL_pI, gL_pL]
    simp only [gL, mJ, jNd, a2_ite]
    by_cases hi : i = p.2.1
    · subst hi
      by_cases h4 : q = c + 4
      · subst h4; simp
      · simp [h4]
    · have e : (i < p.2.1 + 1) = (i < p.2.1) := by apply propext; omega
      simp [hi, e]
end
