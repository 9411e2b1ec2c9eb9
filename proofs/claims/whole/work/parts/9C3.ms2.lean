/-! the reference's Text: shapes, kids, names that are defined -/
section
variable {c : Nat} {q : kP} {s : aT}
theorem mS_pI {f : Nat} {v : Int32} (h : f ≠ 16 ∧ f ≠ 17 ∧ f ≠ 24 ∧ f ≠ 29) : pI (mS c q s) c f v = mS c q (pI s c f v) := by
  refine aT_ext (fun k i => ?_) (fun k i => rfl) rfl
  rw [gI_pI]
  simp only [gI, mS, pI, a2_ite]
  by_cases hk : k = c
  · subst hk
    by_cases hi : i = f
    · subst hi; simp [h]
    · simp [hi]
  · simp [hk]
theorem mS_ak {t : Nat} (h6 : 6 ≤ t) (ht : t < q.1 1) (h : q.2.1 4 t = 0) : pI (pI (pI (pI (pI (pI (pI (mS c q s) c 24 (nI (q.1 2 + 1))) (c + 15) (q.1 2) (-1)) (c + 16) (q.1 2) (-1)) (c + 17) (q.1 2) (-1)) (c + 18) (q.1 2) (-1)) (c + 12) t (nI (q.1 2))) (c + 13) t (nI (q.2.1 4 t + 1)) = mS c (kAk t q) s := by
  have c0 : (kAk t q).1 0 = q.1 0 := rfl
  have c1 : (kAk t q).1 1 = q.1 1 := rfl
  have c2 : (kAk t q).1 2 = q.1 2 + 1 := rfl
  have c4 : (kAk t q).1 4 = q.1 4 := rfl
  refine aT_ext (fun j i => ?_) (fun j i => rfl) rfl
  have R : ∀ r, r = 0 ∨ r = 1 ∨ r = 8 → (kAk t q).2.1 r i = q.2.1 r i := fun r hr => kAk_r (by omega) (.inr (by omega))
  have R15 : (kAk t q).2.1 15 i = q.2.1 15 i := kAk_o (by omega)
  have R4 : (kAk t q).2.1 4 i = if i = t then q.2.1 4 t + 1 else q.2.1 4 i := by
    by_cases hi : i = t
    · subst hi; rw [if_pos rfl, kAk_4]
    · rw [if_neg hi, kAk_r (by omega) (.inl hi)]
  have R13 : (kAk t q).2.1 13 i = if i = t then q.1 2 + 1 else q.2.1 13 i := by
    by_cases hi : i = t
    · subst hi; rw [if_pos rfl, kAk_13, if_pos h]
    · rw [if_neg hi, kAk_r (by omega) (.inl hi)]
  have Rk : ∀ r, 20 ≤ r → r ≤ 23 → (i < q.1 2 + 1) → (kAk t q).2.1 r i = if i = q.1 2 then 0 else q.2.1 r i := by
    intro r a b hlt
    by_cases hi : i = q.1 2
    · subst hi; rw [if_pos rfl, kAk_n (by omega)]
    · rw [if_neg hi, kAk_k a (by omega) (by omega) (.inr (.inl h))]
  simp only [gI_pI]
  simp only [gI, mS, c0, c1, c2, c4, R 0 (by omega), R 1 (by omega), R 8 (by omega), R15, R4, R13]
  by_cases a0 : j = c
  · subst a0
    by_cases e24 : i = 24
    · subst e24; simp
    · simp [e24]
  · by_cases a12 : j = c + 12
    · subst a12
      by_cases hi : i = t
      · subst hi; simp [ht, zI_S]
      · simp [hi]
    · by_cases a13 : j = c + 13
      · subst a13
        by_cases hi : i = t
        · subst hi; simp [ht, h6]
        · simp [hi]
      · by_cases hlt : i < q.1 2 + 1
        · simp only [Rk 20 (by omega) (by omega) hlt, Rk 21 (by omega) (by omega) hlt, Rk 22 (by omega) (by omega) hlt, Rk 23 (by omega) (by omega) hlt, hlt]
          by_cases hi : i = q.1 2
          · subst hi
            by_cases b15 : j = c + 15
            · subst b15; simp [m1_z]
            · by_cases b16 : j = c + 16
              · subst b16; simp [m1_z]
              · by_cases b17 : j = c + 17
                · subst b17; simp [m1_z]
                · by_cases b18 : j = c + 18
                  · subst b18; simp [m1_z]
                  · simp [a0, a12, a13, b15, b16, b17, b18]
          · have hl2 : i < q.1 2 := by omega
            simp [a0, a12, a13, hi, hl2]
        · have hl2 : ¬ i < q.1 2 := by omega
          have hi : ¬ i = q.1 2 := by omega
          simp [a0, a12, a13, hlt, hl2, hi]
theorem mS_ak2 {t : Nat} (h6 : 6 ≤ t) (ht : t < q.1 1) (h : q.2.1 4 t ≠ 0) (hk : q.2.2 0 t (q.2.1 4 t - 1) < q.1 2) : pI (pI (pI (pI (pI (pI (pI (mS c q s) c 24 (nI (q.1 2 + 1))) (c + 15) (q.1 2) (-1)) (c + 16) (q.1 2) (-1)) (c + 17) (q.1 2) (-1)) (c + 18) (q.1 2) (-1)) (c + 18) (q.2.2 0 t (q.2.1 4 t - 1)) (nI (q.1 2))) (c + 13) t (nI (q.2.1 4 t + 1)) = mS c (kAk t q) s := by
  have c0 : (kAk t q).1 0 = q.1 0 := rfl
  have c1 : (kAk t q).1 1 = q.1 1 := rfl
  have c2 : (kAk t q).1 2 = q.1 2 + 1 := rfl
  have c4 : (kAk t q).1 4 = q.1 4 := rfl
  have hkk : q.2.2 0 t (q.2.1 4 t - 1) ≠ q.1 2 := by omega
  refine aT_ext (fun j i => ?_) (fun j i => rfl) rfl
  have R : ∀ r, r = 0 ∨ r = 1 ∨ r = 8 → (kAk t q).2.1 r i = q.2.1 r i := fun r hr => kAk_r (by omega) (.inr (by omega))
  have R15 : (kAk t q).2.1 15 i = q.2.1 15 i := kAk_o (by omega)
  have R4 : (kAk t q).2.1 4 i = if i = t then q.2.1 4 t + 1 else q.2.1 4 i := by
    by_cases hi : i = t
    · subst hi; rw [if_pos rfl, kAk_4]
    · rw [if_neg hi, kAk_r (by omega) (.inl hi)]
  have R13 : (kAk t q).2.1 13 i = q.2.1 13 i := by
    by_cases hi : i = t
    · subst hi; rw [kAk_13, if_neg h]
    · rw [kAk_r (by omega) (.inl hi)]
  have Rk : ∀ r, 20 ≤ r → r ≤ 22 → (i < q.1 2 + 1) → (kAk t q).2.1 r i = if i = q.1 2 then 0 else q.2.1 r i := by
    intro r a b hlt
    by_cases hi : i = q.1 2
    · subst hi; rw [if_pos rfl, kAk_n (by omega)]
    · rw [if_neg hi, kAk_k a (by omega) (by omega) (.inl (by omega))]
  have R23 : (i < q.1 2 + 1) → (kAk t q).2.1 23 i = if i = q.1 2 then 0 else if i = q.2.2 0 t (q.2.1 4 t - 1) then q.1 2 + 1 else q.2.1 23 i := by
    intro hlt
    by_cases hi : i = q.1 2
    · subst hi; rw [if_pos rfl, kAk_n (by omega)]
    · rw [if_neg hi]
      by_cases hl : i = q.2.2 0 t (q.2.1 4 t - 1)
      · rw [if_pos hl, hl, kAk_23 hk h]
      · rw [if_neg hl, kAk_k (by omega) (by omega) (by omega) (.inr (.inr hl))]
  simp only [gI_pI]
  simp only [gI, mS, c0, c1, c2, c4, R 0 (by omega), R 1 (by omega), R 8 (by omega), R15, R4, R13]
  by_cases a0 : j = c
  · subst a0
    by_cases e24 : i = 24
    · subst e24; simp
    · simp [e24]
  · by_cases a13 : j = c + 13
    · subst a13
      by_cases hi : i = t
      · subst hi; simp [ht, h6]
      · simp [hi]
    · by_cases hlt : i < q.1 2 + 1
      · simp only [Rk 20 (by omega) (by omega) hlt, Rk 21 (by omega) (by omega) hlt, Rk 22 (by omega) (by omega) hlt, R23 hlt, hlt]
        by_cases hi : i = q.1 2
        · subst hi
          by_cases b15 : j = c + 15
          · subst b15; simp [m1_z]
          · by_cases b16 : j = c + 16
            · subst b16; simp [m1_z]
            · by_cases b17 : j = c + 17
              · subst b17; simp [m1_z]
              · by_cases b18 : j = c + 18
                · subst b18; simp [m1_z, hkk.symm]
                · simp [a0, a13, b15, b16, b17, b18]
        · have hl2 : i < q.1 2 := by omega
          by_cases b18 : j = c + 18
          · subst b18
            by_cases hl : i = q.2.2 0 t (q.2.1 4 t - 1)
            · rw [← hl] at *; simp [hi, hl2, zI_S]
            · simp [hi, hl2, hl]
          · simp [a0, a13, hi, hl2, b18]
      · have hl2 : ¬ i < q.1 2 := by omega
        have hi : ¬ i = q.1 2 := by omega
        have hl : ¬ i = q.2.2 0 t (q.2.1 4 t - 1) := by omega
        simp [a0, a13, hlt, hl2, hi, hl]
theorem Mt_shape (d : Nat) (hc : isT c) {k : Nat} (h6 : 6 ≤ q.1 1) (hn : q.1 1 < 140) : fMt_shape d c (nI k) (mS c q s) = rI (nI (q.1 1)) (mS c (kSh k q) s) := by
  refine eMt_shape d c _ _ hc _ ?_
  simp (disch := omega) [mS_ns, stI_n, gI_pI, wI_eq]
  rw [← mS_sh h6, nI_add1]
  rfl
/-- the pointer to a schema's part -/
def kPr (q : kP) (t i : Nat) : Nat := if i < q.2.1 4 t then q.2.2 0 t i + 1 else 0
theorem Mt_addKid (d : Nat) (hc : isT c) {t : Nat} (h6 : 6 ≤ t) (ht : t < q.1 1) (hn : q.1 1 < 140) (hk : q.1 2 < 2200) (h4 : q.2.1 4 t < 1000) (hki : q.2.1 4 t ≠ 0 → q.2.2 0 t (q.2.1 4 t - 1) < q.1 2) : fMt_addKid d c (nI t) (zI (if q.2.1 4 t = 0 then 0 else q.2.2 0 t (q.2.1 4 t - 1) + 1)) (mS c q s) = rI (nI (q.1 2)) (mS c (kAk t q) s) := by
  refine eMt_addKid d c _ _ _ hc _ ?_
  rw [wI_eq, mS_nk, stI_n hk (by omega), stI_n hk (by omega), stI_n hk (by omega), stI_n hk (by omega)]
  by_cases h : q.2.1 4 t = 0
  · rw [if_pos h, if_neg (by decide), stI_n (by omega) (by omega)]
    refine eMt_addKid_42 d c _ _ _ hc _ ?_
    rw [ldI_n (by omega) (by omega), stI_n (by omega) (by omega)]
    simp only [gI_pI]
    rw [if_neg (by omega), if_neg (by omega), if_neg (by omega), if_neg (by omega), if_neg (by omega), if_neg (by omega), mS_13 h6 ht, nI_add1, nI_add1, mS_ak h6 ht h]
    rfl
  · have hk2 := hki h
    rw [if_neg h, zI_S, if_pos (by rw [show (0 : Int32) = nI 0 from rfl]; exact nI_le (by omega) (by omega)), stI_n (by omega) (by omega)]
    refine eMt_addKid_42 d c _ _ _ hc _ ?_
    rw [ldI_n (by omega) (by omega), stI_n (by omega) (by omega)]
    simp only [gI_pI]
    rw [if_neg (by omega), if_neg (by omega), if_neg (by omega), if_neg (by omega), if_neg (by omega), if_neg (by omega), mS_13 h6 ht, nI_add1, nI_add1, mS_ak2 h6 ht h hk2]
    rfl
theorem Mt_alike (d : Nat) (hc : isT c) {x y : Nat} (hx : x < q.1 1) (hy : y < q.1 1) (hn : q.1 1 < 140) (h0x : q.2.1 0 x < 100) (h0y : q.2.1 0 y < 100) : fMt_alike d c (nI x) (nI y) (mS c q s) = rI (if kAl q x y then 1 else 0) (mS c q s) := by
  refine eMt_alike d c _ _ _ hc _ ?_
  simp (disch := omega) only [nI_eqE]
  unfold kAl
  by_cases h : x = y
  · rw [if_neg (fun e => e h), if_pos (by simp [h])]
    rfl
  · rw [if_pos h, ldI_n (by omega) (by omega), ldI_n (by omega) (by omega), mS_9 hx, mS_9 hy, ldI_n (by omega) (by omega), ldI_n (by omega) (by omega), mS_9 hx]
    simp (disch := omega) only [nI_lit 6, nI_lit 7, nI_eqE]
    by_cases h1 : q.2.1 0 x = q.2.1 0 y
    · rw [if_neg (fun e => e h1)]
      by_cases h6 : q.2.1 0 x = 6
      · rw [if_pos h6, if_pos (by simp only [decide_eq_true_eq]; exact .inr ⟨h1, .inl h6⟩)]
        rfl
      · rw [if_neg h6]
        by_cases h7 : q.2.1 0 x = 7
        · rw [if_neg (fun e => e h7), if_pos (by simp only [decide_eq_true_eq]; exact .inr ⟨h1, .inr h7⟩)]
          rfl
        · rw [if_pos h7, if_neg (by simp only [decide_eq_true_eq]; omega)]
          rfl
    · rw [if_pos h1, if_neg (by simp only [decide_eq_true_eq]; omega)]
      rfl
end
