/-! the lake's Text: signs, escapes -/
def lB0 (s : aT) (B : Nat → Nat) (n fr : Nat) : Prop := n ≤ 4096 ∧ gI s 13 13 = nI n ∧ (gM0 s = 2 ∨ gM0 s = 57) ∧ fr + n ≤ alen (gM0 s) ∧ gI s 13 12 = nI fr ∧ (∀ i, i < n → gI s (gM0 s) (fr + i) = mI (B i)) ∧ ∀ i, B i < 256
theorem alen_2 : alen 2 = 4096 := by decide
theorem alen_57 : alen 57 = 32768 := by decide
theorem alen_21 : alen 21 = 4096 := by decide
theorem isB_20 : isB 20 := by unfold isB; decide
theorem lB0_len {s : aT} {B : Nat → Nat} {n fr : Nat} (h : lB0 s B n fr) : fr + n ≤ 32768 ∧ alen (gM0 s) ≤ 32768 := by
  obtain ⟨_, _, h3, h4, _⟩ := h
  rcases h3 with e | e
  · rw [e, alen_2] at h4 ⊢; omega
  · rw [e, alen_57] at h4 ⊢; omega
theorem lB0_pI {s : aT} {B : Nat → Nat} {n fr f : Nat} {v : Int32} (h : lB0 s B n fr) (hf : f ≠ 13 ∧ f ≠ 12) : lB0 (pI s 13 f v) B n fr := by
  obtain ⟨h1, h2, h3, h4, h5, h6, h7⟩ := h
  refine ⟨h1, ?_, h3, h4, ?_, fun i hi => ?_, h7⟩
  · rw [gI_pI, if_neg (by omega)]; exact h2
  · rw [gI_pI, if_neg (by omega)]; exact h5
  · have e : gM0 (pI s 13 f v) = gM0 s := rfl
    rw [gI_pI, e, if_neg (by omega)]; exact h6 i hi
section
variable {p : jP} {s : aT} {B : Nat → Nat} {n fr : Nat}
theorem Tx_peek (d : Nat) (hB : lB0 s B n fr) (hp : p.1 ≤ n) : fTx_peek d (lJ p s) = rI (uI (jBt B n p.1)) (lJ p s) := by
  have hl := lB0_len hB
  obtain ⟨h1, h2, h3, h4, h5, h6, h7⟩ := hB
  refine eTx_peek d _ _ ?_
  rw [lJ_f (by omega), h2, lJ_at, lJ_M, lJ_f (by omega), h5, nI_addE]
  simp (disch := omega) only [nI_leE]
  by_cases h : n ≤ p.1
  · have e : jBt B n p.1 = 256 := by unfold jBt; rw [if_neg (by omega)]
    rw [if_pos h, e]
    rfl
  · have e : jBt B n p.1 = B p.1 := by unfold jBt; rw [if_pos (by omega)]
    rw [if_neg h, ldI_n (by omega) (by omega), lJ_far (by omega), h6 _ (by omega), mI_and (h7 _), e]
    have e2 : uI (B p.1) = nI (B p.1) := by unfold uI; rw [if_pos (h7 _)]
    rw [e2]
    rfl
theorem Tx_failHere (d : Nat) : fTx_failHere d (lJ p s) = rI (-1) (lJ p (pI s 13 10 (nI p.1))) := by
  refine eTx_failHere d _ _ ?_
  rw [wI_eq, lJ_at, lJ_pI (by omega)]
  rfl
theorem Tx_failAt (d : Nat) (x : Int32) : fTx_failAt d x (lJ p s) = rI (-1) (lJ p (pI s 13 10 x)) := by
  refine eTx_failAt d _ _ _ ?_
  rw [wI_eq, lJ_pI (by omega)]
  rfl
theorem Tx_isBlank (d : Nat) {b : Nat} (hb : b ≤ 256) (t : aT) : fTx_isBlank d (uI b) t = rI (if jBl b then 1 else 0) t := by
  refine eTx_isBlank d _ _ _ ?_
  simp (disch := omega) only [nI_lit 9, nI_lit 10, nI_lit 13, nI_lit 32, uI_eqE]
  unfold jBl
  by_cases h1 : b = 9
  · rw [if_pos h1, if_pos (by omega)]; rfl
  · by_cases h2 : b = 10
    · rw [if_neg h1, if_pos h2, if_pos (by omega)]; rfl
    · by_cases h3 : b = 13
      · rw [if_neg h1, if_neg h2, if_pos h3, if_pos (by omega)]; rfl
      · by_cases h4 : b = 32
        · rw [if_neg h1, if_neg h2, if_neg h3, if_neg (by omega), if_pos (by omega)]; rfl
        · rw [if_neg h1, if_neg h2, if_neg h3, if_pos h4, if_neg (by omega)]; rfl
theorem Tx_isDigit (d : Nat) {b : Nat} (hb : b ≤ 256) (t : aT) : fTx_isDigit d (uI b) t = rI (if jDi b then 1 else 0) t := by
  refine eTx_isDigit d _ _ _ ?_
  simp (disch := omega) only [nI_lit 48, nI_lit 57, uI_ltE, uI_gtE]
  unfold jDi
  by_cases h1 : b < 48 ∨ b = 256
  · rw [if_pos h1, if_neg (by omega)]; rfl
  · by_cases h2 : 57 < b ∧ b ≠ 256
    · rw [if_neg h1, if_pos h2, if_neg (by omega)]; rfl
    · rw [if_neg h1, if_neg h2, if_pos (by omega)]; rfl
theorem Tx_blanks (hB : lB0 s B n fr) : ∀ f a, n ≤ a + f → a ≤ n → ∀ d, fTx_skipBlanks (d + 1) (lJ (jTo p a) s) = rV (lJ (jTo p (jSk B n a)) s) := by
  have hl := lB0_len hB
  intro f
  induction f with
  | zero =>
    intro a h1 h2 d
    refine eTx_skipBlanks d _ _ ?_
    rw [lJ_f (by omega), hB.2.1, lJ_at]
    show (if nI n ≤ nI a then _ else _) = _
    simp (disch := omega) only [nI_leE]
    rw [if_pos (by omega), jSk_eq h2, if_neg]
    · rfl
    · unfold jBt; rw [if_neg (by omega)]; unfold jBl; omega
  | succ f ih =>
    intro a h1 h2 d
    have hb := jBt_le (n := n) (a := a) hB.2.2.2.2.2.2
    have hn := hB.1
    refine eTx_skipBlanks d _ _ ?_
    rw [lJ_f (by omega), hB.2.1, lJ_at]
    show (if nI n ≤ nI a then _ else _) = _
    simp (disch := omega) only [nI_leE]
    by_cases h : n ≤ a
    · rw [if_pos (by exact h), jSk_eq h2, if_neg]
      · rfl
      · unfold jBt; rw [if_neg (by omega)]; unfold jBl; omega
    · rw [if_neg (by exact h), Tx_peek d hB (by exact h2), cG_I, show jBt B n (jTo p a).1 = jBt B n a from rfl, Tx_isBlank d hb, cG_I]
      show (if (if jBl (jBt B n a) then (1 : Int32) else 0) = 0 then _ else _) = _
      by_cases hbl : jBl (jBt B n a)
      · rw [if_pos hbl, if_neg (by decide), wI_eq, lJ_at, nI_add1, lJ_to, jSk_eq h2, if_pos hbl]
        exact ih (a + 1) (by omega) (by omega) d
      · rw [if_neg hbl, if_pos rfl, jSk_eq h2, if_neg hbl]
        rfl
theorem Tx_bl (d : Nat) (hB : lB0 s B n fr) (h : p.1 ≤ n) : fTx_skipBlanks (d + 1) (lJ p s) = rV (lJ (jTo p (jSk B n p.1)) s) := Tx_blanks (p := p) hB n p.1 (by omega) h d
theorem Tx_add (d : Nat) (k : Nat) (hk : k ≠ 2) (hp : p.2.1 < 4096) : fTx_add d (nI k) (lJ p s) = rI (nI p.2.1) (lJ (jNg k (gL s 19 p.2.1).toInt p) s) := by
  refine eTx_add d _ _ _ ?_
  simp (disch := omega) [lJ_n, stI_n, gI_pI, wI_eq, lJ_at]
  rw [lJ_nd hk]
  rfl
theorem Tx_add' (d : Nat) (k : Nat) (hk : k ≠ 2 ∧ k ≠ 3) (hp : p.2.1 < 4096) : fTx_add d (nI k) (lJ p s) = rI (nI p.2.1) (lJ (jNd k p) s) := by
  rw [Tx_add d k hk.1 hp, lJ_ng hk.2]
theorem Tx_hex (d : Nat) {b : Nat} (hb : b ≤ 256) (t : aT) : fTx_hexDigit d (uI b) t = rI (if jHx b < 16 then nI (jHx b) else -1) t := by
  have lt : ∀ k, k < 128 → (uI b < nI k) = (b < k ∨ b = 256) := fun k hk => uI_ltE hb (by omega)
  have gt : ∀ k, k < 128 → (nI k < uI b) = (k < b ∧ b ≠ 256) := fun k hk => uI_gtE hb (by omega)
  have un : b < 256 → uI b = nI b := fun h => by unfold uI; rw [if_pos h]
  refine eTx_hexDigit d _ t _ ?_
  have e22 : fTx_hexDigit_22 d (uI b) t = rI (if 65 ≤ b ∧ b ≤ 70 then nI (b - 55) else -1) t := by
    refine eTx_hexDigit_22 d _ t _ ?_
    simp (disch := omega) only [nI_lit 65, nI_lit 70, lt, gt]
    by_cases h1 : b < 65 ∨ b = 256
    · rw [if_pos h1, if_neg (by omega)]; rfl
    · by_cases h2 : 70 < b ∧ b ≠ 256
      · rw [if_neg h1, if_pos h2, if_neg (by omega)]; rfl
      · rw [if_neg h1, if_neg h2, if_pos (by omega), un (by omega), nI_sub (by omega), nI_lit 10, nI_addE]
        have : b - 65 + 10 = b - 55 := by omega
        rw [this]; rfl
  have e10 : fTx_hexDigit_10 d (uI b) t = rI (if 97 ≤ b ∧ b ≤ 102 then nI (b - 87) else if 65 ≤ b ∧ b ≤ 70 then nI (b - 55) else -1) t := by
    refine eTx_hexDigit_10 d _ t _ ?_
    simp (disch := omega) only [nI_lit 97, nI_lit 102, lt, gt]
    by_cases h1 : b < 97 ∨ b = 256
    · rw [if_pos h1, if_neg (by omega)]; exact e22
    · by_cases h2 : 102 < b ∧ b ≠ 256
      · rw [if_neg h1, if_pos h2, if_neg (by omega)]; exact e22
      · rw [if_neg h1, if_neg h2, if_pos (by omega), un (by omega), nI_sub (by omega), nI_lit 10, nI_addE]
        have : b - 97 + 10 = b - 87 := by omega
        rw [this]; rfl
  simp (disch := omega) only [nI_lit 48, nI_lit 57, lt, gt]
  rw [e10]
  unfold jHx
  by_cases h1 : 48 ≤ b ∧ b ≤ 57
  · rw [if_neg (by omega), if_neg (by omega), if_pos h1, if_pos (by omega), un (by omega), nI_sub (by omega)]; rfl
  · have hh : (if b < 48 ∨ b = 256 then rI (if 97 ≤ b ∧ b ≤ 102 then nI (b - 87) else if 65 ≤ b ∧ b ≤ 70 then nI (b - 55) else -1) t else if 57 < b ∧ b ≠ 256 then rI (if 97 ≤ b ∧ b ≤ 102 then nI (b - 87) else if 65 ≤ b ∧ b ≤ 70 then nI (b - 55) else -1) t else rI (uI b - nI 48) t) = rI (if 97 ≤ b ∧ b ≤ 102 then nI (b - 87) else if 65 ≤ b ∧ b ≤ 70 then nI (b - 55) else -1) t := by
      by_cases h2 : b < 48 ∨ b = 256
      · rw [if_pos h2]
      · rw [if_neg h2, if_pos (by omega)]
    rw [hh, if_neg h1]
    by_cases h3 : 97 ≤ b ∧ b ≤ 102
    · rw [if_pos h3, if_pos h3, if_pos (by omega)]; rfl
    · rw [if_neg h3, if_neg h3]
      by_cases h4 : 65 ≤ b ∧ b ≤ 70
      · rw [if_pos h4, if_pos h4, if_pos (by omega)]; rfl
      · rw [if_neg h4, if_neg h4, if_neg (by omega)]; rfl
/-- four digits, the place at the sign before them -/
theorem Tx_four (hB : lB0 s B n fr) (d z : Nat) : ∀ k v a, k ≤ 4 → v * 16 ^ k < 65536 → a < n → match jH4 B n k v (a + 1) with
    | .ok (v1, a1) => fTx_fourDigits_4 (d + 1) (nI z) (nI v) (nI (4 - k)) (lJ (jTo p a) s) = (if v1 < 256 then rI (nI v1) (lJ (jTo p (a1 - 1)) s) else rI (-1) (lJ (jTo p (a1 - 1)) (pI s 13 10 (nI z))))
    | .error e => ∃ a1, a1 ≤ n ∧ fTx_fourDigits_4 (d + 1) (nI z) (nI v) (nI (4 - k)) (lJ (jTo p a) s) = rI (-1) (lJ (jTo p a1) (pI s 13 10 (nI e))) := by
  intro k
  induction k with
  | zero =>
    intro v a _ hv ha
    simp only [jH4]
    by_cases h : v < 256
    · rw [if_pos h]
      refine eTx_fourDigits_4 d _ _ _ _ _ ?_
      simp (disch := omega) only [nI_lit 255, nI_leE]
      rw [if_pos (by decide), if_pos (by omega)]
      rfl
    · rw [if_neg h]
      refine eTx_fourDigits_4 d _ _ _ _ _ ?_
      simp (disch := omega) only [nI_lit 255, nI_leE]
      rw [if_pos (by decide), if_neg (by omega), Tx_failAt, cG_I]
      rfl
  | succ k ih =>
    intro v a hk hv ha
    have hb := jBt_le (n := n) (a := a + 1) hB.2.2.2.2.2.2
    have hp16 : 0 < 16 ^ k := Nat.pow_pos (by omega)
    by_cases hx : jHx (jBt B n (a + 1)) < 16
    · have hlt := jBt_lt (B := B) (n := n) (a := a + 1) rfl (jHx_lt hx)
      have hv2 : (16 * v + jHx (jBt B n (a + 1))) * 16 ^ k < 65536 := by
        have h1 : v * 16 ^ (k + 1) + 16 ^ (k + 1) ≤ 65536 := by
          have e4 : (65536 : Nat) = 16 ^ (3 - k) * 16 ^ (k + 1) := by
            rw [← Nat.pow_add]
            have : 3 - k + (k + 1) = 4 := by omega
            rw [this]
          rw [e4] at hv ⊢
          have h2 : v < 16 ^ (3 - k) := Nat.lt_of_mul_lt_mul_right hv
          have h3 : (v + 1) * 16 ^ (k + 1) ≤ 16 ^ (3 - k) * 16 ^ (k + 1) := Nat.mul_le_mul_right _ h2
          rw [Nat.add_mul, Nat.one_mul] at h3
          exact h3
        have h2 : (16 * v + jHx (jBt B n (a + 1))) * 16 ^ k < (16 * v + 16) * 16 ^ k := Nat.mul_lt_mul_of_pos_right (by omega) hp16
        have h3 : (16 * v + 16) * 16 ^ k = v * 16 ^ (k + 1) + 16 ^ (k + 1) := by
          rw [Nat.add_mul, Nat.pow_succ, Nat.mul_comm 16 v, Nat.mul_assoc, Nat.mul_comm (16 ^ k) 16]
        omega
      have ih := ih (16 * v + jHx (jBt B n (a + 1))) (a + 1) (by omega) hv2 hlt
      have go : ∀ r, fTx_fourDigits_4 (d + 1) (nI z) (nI (16 * v + jHx (jBt B n (a + 1)))) (nI (4 - k)) (lJ (jTo p (a + 1)) s) = some r → fTx_fourDigits_4 (d + 1) (nI z) (nI v) (nI (4 - (k + 1))) (lJ (jTo p a) s) = some r := by
        intro r hr
        refine eTx_fourDigits_4 d _ _ _ _ _ ?_
        simp (disch := omega) only [nI_lit 4, nI_leE]
        have hne : ¬ nI (jHx (jBt B n (a + 1))) = -1 := by
          rw [m1_z]
          intro h
          have := nI_pos (n := jHx (jBt B n (a + 1))) (by omega)
          rw [h] at this
          exact this (by decide)
        rw [if_neg (by omega), wI_eq, lJ_at, nI_add1, lJ_to, Tx_peek (p := jTo (jTo p a) ((jTo p a).1 + 1)) d hB (by exact Nat.le_of_lt hlt), cG_I]
        show cG (fTx_hexDigit d (uI (jBt B n (a + 1))) _) _ = _
        rw [Tx_hex d hb, cG_I, if_pos hx, if_pos hne]
        simp only [nI_add1, nI_lit 16, pk_mul, nI_addE]
        have e1 : 4 - (k + 1) + 1 = 4 - k := by omega
        rw [e1, Nat.mul_comm v 16]
        exact hr
      unfold jH4
      rw [if_pos hx]
      revert ih
      cases jH4 B n k (16 * v + jHx (jBt B n (a + 1))) (a + 1 + 1) with
      | error e => rintro ⟨a1, hq, h⟩; exact ⟨a1, hq, go _ h⟩
      | ok q =>
        obtain ⟨v1, a1⟩ := q
        simp only
        intro h
        by_cases h256 : v1 < 256
        · rw [if_pos h256] at h ⊢; exact go _ h
        · rw [if_neg h256] at h ⊢; exact go _ h
    · unfold jH4
      rw [if_neg hx]
      refine ⟨a + 1, ha, ?_⟩
      refine eTx_fourDigits_4 d _ _ _ _ _ ?_
      simp (disch := omega) only [nI_lit 4, nI_leE]
      rw [if_neg (by omega), wI_eq, lJ_at, nI_add1, lJ_to, Tx_peek (p := jTo (jTo p a) ((jTo p a).1 + 1)) d hB (by exact ha), cG_I]
      show cG (fTx_hexDigit d (uI (jBt B n (a + 1))) _) _ = _
      rw [Tx_hex d hb, cG_I, if_neg hx, if_neg (by decide), Tx_failHere, cG_I]
      rfl
theorem Tx_esc (hB : lB0 s B n fr) (d : Nat) (hp : p.1 < n) : match jEs B n p.1 with
    | .ok (v1, a1) => fTx_escape (d + 2) (lJ p s) = rI (nI v1) (lJ (jTo p (a1 - 1)) s)
    | .error e => ∃ a1, a1 ≤ n ∧ fTx_escape (d + 2) (lJ p s) = rI (-1) (lJ (jTo p a1) (pI s 13 10 (nI e))) := by
  have hb := jBt_le (n := n) (a := p.1 + 1) hB.2.2.2.2.2.2
  have hpk : fTx_peek (d + 1) (lJ (jTo p (p.1 + 1)) s) = rI (uI (jBt B n (p.1 + 1))) (lJ (jTo p (p.1 + 1)) s) := Tx_peek (p := jTo p (p.1 + 1)) (d + 1) hB hp
  have go : ∀ r, (if jBt B n (p.1 + 1) = 34 then rI 34 (lJ (jTo p (p.1 + 1)) s) else if jBt B n (p.1 + 1) = 47 then rI 47 (lJ (jTo p (p.1 + 1)) s) else if jBt B n (p.1 + 1) = 92 then rI 92 (lJ (jTo p (p.1 + 1)) s) else if jBt B n (p.1 + 1) = 98 then rI 8 (lJ (jTo p (p.1 + 1)) s) else if jBt B n (p.1 + 1) = 102 then rI 12 (lJ (jTo p (p.1 + 1)) s) else if jBt B n (p.1 + 1) = 110 then rI 10 (lJ (jTo p (p.1 + 1)) s) else if jBt B n (p.1 + 1) = 114 then rI 13 (lJ (jTo p (p.1 + 1)) s) else if jBt B n (p.1 + 1) = 116 then rI 9 (lJ (jTo p (p.1 + 1)) s) else if jBt B n (p.1 + 1) = 117 then cG (fTx_fourDigits (d + 1) (nI p.1) (lJ (jTo p (p.1 + 1)) s)) (kI fun v14 s13 => rI v14 s13) else cG (fTx_failHere (d + 1) (lJ (jTo p (p.1 + 1)) s)) (kI fun v16 s15 => rI v16 s15)) = some r → fTx_escape (d + 2) (lJ p s) = some r := by
    intro r hr
    refine eTx_escape (d + 1) _ _ ?_
    rw [wI_eq, lJ_at, nI_add1, lJ_to, hpk, cG_I]
    simp (disch := omega) only [nI_lit 34, nI_lit 47, nI_lit 92, nI_lit 98, nI_lit 102, nI_lit 110, nI_lit 114, nI_lit 116, nI_lit 117, uI_eqE]
    exact hr
  unfold jEs
  by_cases h1 : jE1 (jBt B n (p.1 + 1)) ≠ 0
  · rw [if_pos h1]
    simp only
    refine go _ ?_
    unfold jE1 at h1 ⊢
    have e2 : p.1 + 2 - 1 = p.1 + 1 := by omega
    rw [e2]
    repeat' split at h1
    all_goals first
      | (exfalso; exact h1 rfl)
      | (rename_i hx; simp [hx]; rfl)
  · rw [if_neg h1]
    have h0 : jE1 (jBt B n (p.1 + 1)) = 0 := by omega
    have hno : jBt B n (p.1 + 1) ≠ 34 ∧ jBt B n (p.1 + 1) ≠ 47 ∧ jBt B n (p.1 + 1) ≠ 92 ∧ jBt B n (p.1 + 1) ≠ 98 ∧ jBt B n (p.1 + 1) ≠ 102 ∧ jBt B n (p.1 + 1) ≠ 110 ∧ jBt B n (p.1 + 1) ≠ 114 ∧ jBt B n (p.1 + 1) ≠ 116 := by
      refine ⟨?_, ?_, ?_, ?_, ?_, ?_, ?_, ?_⟩ <;> (intro h; rw [h] at h0; revert h0; decide)
    obtain ⟨n1, n2, n3, n4, n5, n6, n7, n8⟩ := hno
    rw [if_neg n1, if_neg n2, if_neg n3, if_neg n4, if_neg n5, if_neg n6, if_neg n7, if_neg n8] at go
    by_cases h2 : jBt B n (p.1 + 1) = 117
    · rw [if_pos h2] at go ⊢
      have hlt := jBt_lt h2 (by omega)
      have h72 := Tx_four (p := p) hB d p.1 4 0 (p.1 + 1) (by omega) (by decide) hlt
      have go2 : ∀ v t, fTx_fourDigits_4 (d + 1) (nI p.1) (nI 0) (nI (4 - 4)) (lJ (jTo p (p.1 + 1)) s) = rI v t → fTx_escape (d + 2) (lJ p s) = rI v t := by
        intro v t hr
        refine go _ ?_
        have : fTx_fourDigits (d + 1) (nI p.1) (lJ (jTo p (p.1 + 1)) s) = rI v t := by
          refine eTx_fourDigits d _ _ _ ?_
          exact hr
        rw [this, cG_I]
        rfl
      revert h72
      show (match jH4 B n 4 0 (p.1 + 2) with | .ok (v1, a1) => _ | .error e => _) → _
      cases hj4 : jH4 B n 4 0 (p.1 + 2) with
      | error e => rintro ⟨a1, hq, h⟩; exact ⟨a1, hq, go2 _ _ h⟩
      | ok q =>
        obtain ⟨v1, a1⟩ := q
        simp only
        intro h
        by_cases h256 : v1 < 256
        · rw [if_pos h256] at h ⊢; exact go2 _ _ h
        · rw [if_neg h256] at h ⊢; exact ⟨a1 - 1, by have := jH4_ok _ _ _ _ hj4; simp only at this; omega, go2 _ _ h⟩
    · rw [if_neg h2] at go ⊢
      refine ⟨p.1 + 1, hp, go _ ?_⟩
      rw [Tx_failHere, cG_I]
      rfl
end
