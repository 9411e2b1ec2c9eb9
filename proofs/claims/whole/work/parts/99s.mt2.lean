/-! the reference's Text: escapes, strings -/
def eIx (b : Nat) : Int32 := if b = 34 then 0 else if b = 92 then 1 else if b = 47 then 2 else if b = 98 then 3 else if b = 102 then 4 else if b = 110 then 5 else if b = 114 then 6 else if b = 116 then 7 else -1
theorem eIx_prim : ∀ b : Nat, b < 128 → aPrim 902 [.ref 1043, .int (((nI b).toUInt32 % 65536).toInt32)] = some (.int (eIx b)) := by decide +kernel
section
variable {c : Nat} {p : jP} {s : aT} {B : Nat → Nat} {n : Nat}
theorem Mt_hex (d : Nat) {b : Nat} (hb : b ≤ 256) (t : aT) : fMt_hex d (mI b) t = rI (if jHx b < 16 then nI (jHx b) else -1) t := by
  have lt : ∀ k, k < 128 → (mI b < nI k) = (b < k ∨ 128 ≤ b) := fun k hk => mI_ltE hb hk
  have gt : ∀ k, k < 128 → (nI k < mI b) = (k < b ∧ b < 128) := fun k hk => mI_gtE hb hk
  refine eMt_hex d _ t _ ?_
  have e22 : fMt_hex_22 d (mI b) t = rI (if 65 ≤ b ∧ b ≤ 70 then nI (b - 55) else -1) t := by
    refine eMt_hex_22 d _ t _ ?_
    simp (disch := omega) only [nI_lit 65, nI_lit 70, lt, gt]
    by_cases h1 : b < 65 ∨ 128 ≤ b
    · rw [if_pos h1, if_neg (by omega)]; rfl
    · by_cases h2 : 70 < b ∧ b < 128
      · rw [if_neg h1, if_pos h2, if_neg (by omega)]; rfl
      · rw [if_neg h1, if_neg h2, if_pos (by omega)]
        have : mI b = nI b := by unfold mI; rw [if_pos (by omega)]
        rw [this, nI_sub (by omega), nI_lit 10, nI_addE]
        have : b - 65 + 10 = b - 55 := by omega
        rw [this]; rfl
  have e10 : fMt_hex_10 d (mI b) t = rI (if 97 ≤ b ∧ b ≤ 102 then nI (b - 87) else if 65 ≤ b ∧ b ≤ 70 then nI (b - 55) else -1) t := by
    refine eMt_hex_10 d _ t _ ?_
    simp (disch := omega) only [nI_lit 97, nI_lit 102, lt, gt]
    by_cases h1 : b < 97 ∨ 128 ≤ b
    · rw [if_pos h1, if_neg (by omega)]; exact e22
    · by_cases h2 : 102 < b ∧ b < 128
      · rw [if_neg h1, if_pos h2, if_neg (by omega)]; exact e22
      · rw [if_neg h1, if_neg h2, if_pos (by omega)]
        have : mI b = nI b := by unfold mI; rw [if_pos (by omega)]
        rw [this, nI_sub (by omega), nI_lit 10, nI_addE]
        have : b - 97 + 10 = b - 87 := by omega
        rw [this]; rfl
  simp (disch := omega) only [nI_lit 48, nI_lit 57, lt, gt]
  rw [e10]
  unfold jHx
  by_cases h1 : 48 ≤ b ∧ b ≤ 57
  · rw [if_neg (by omega), if_neg (by omega), if_pos h1, if_pos (by omega)]
    have : mI b = nI b := by unfold mI; rw [if_pos (by omega)]
    rw [this, nI_sub (by omega)]; rfl
  · have hh : (if b < 48 ∨ 128 ≤ b then rI (if 97 ≤ b ∧ b ≤ 102 then nI (b - 87) else if 65 ≤ b ∧ b ≤ 70 then nI (b - 55) else -1) t else if 57 < b ∧ b < 128 then rI (if 97 ≤ b ∧ b ≤ 102 then nI (b - 87) else if 65 ≤ b ∧ b ≤ 70 then nI (b - 55) else -1) t else rI (mI b - nI 48) t) = rI (if 97 ≤ b ∧ b ≤ 102 then nI (b - 87) else if 65 ≤ b ∧ b ≤ 70 then nI (b - 55) else -1) t := by
      by_cases h2 : b < 48 ∨ 128 ≤ b
      · rw [if_pos h2]
      · rw [if_neg h2, if_pos (by omega)]
    rw [hh, if_neg h1]
    by_cases h3 : 97 ≤ b ∧ b ≤ 102
    · rw [if_pos h3, if_pos h3, if_pos (by omega)]; rfl
    · rw [if_neg h3, if_neg h3]
      by_cases h4 : 65 ≤ b ∧ b ≤ 70
      · rw [if_pos h4, if_pos h4, if_pos (by omega)]; rfl
      · rw [if_neg h4, if_neg h4, if_neg (by omega)]; rfl
theorem Mt_esc72 (hc : isT c) (hB : mB0 c s B n) (d z : Nat) : ∀ k v a, k ≤ 4 → v * 16 ^ k < 65536 → a ≤ n → match jH4 B n k v a with
    | .ok (v1, a1) => fMt_escaped_72 (d + 6) c (nI z) (nI v) (nI (4 - k)) (mJ c (jTo p a) s) = (if v1 < 256 then rI (nI v1) (mJ c (jTo p a1) s) else rT 0 (mX c (jTo p a1) s z))
    | .error e => ∃ a1, fMt_escaped_72 (d + 6) c (nI z) (nI v) (nI (4 - k)) (mJ c (jTo p a) s) = rT 0 (mX c (jTo p a1) s e) := by
  intro k
  induction k with
  | zero =>
    intro v a _ hv ha
    simp only [jH4]
    by_cases h : v < 256
    · rw [if_pos h]
      refine eMt_escaped_72 d c _ _ _ _ hc _ ?_
      simp (disch := omega) only [nI_lit 256, nI_leE]
      rw [if_pos (by decide), if_neg (by omega)]
      refine eMt_escaped_110 d _ _ _ c _ hc _ ?_
      rw [Mt_need1 _ hc, cG_V]
      rfl
    · rw [if_neg h]
      refine eMt_escaped_72 d c _ _ _ _ hc _ ?_
      simp (disch := omega) only [nI_lit 256, nI_leE]
      rw [if_pos (by decide), if_pos (by omega)]
      refine eMt_escaped_110 d _ _ _ c _ hc _ ?_
      rw [Mt_need0 _ hc, cG_T]
      rfl
  | succ k ih =>
    intro v a hk hv ha
    have hb := jBt_le (n := n) (a := a) hB.2.2.2
    have hl : ∀ d, fMt_look d c (mJ c (jTo p a) s) = rI (mI (jBt B n a)) (mJ c (jTo p a) s) := fun d => Mt_look d hc hB ha
    have hpow : v * 16 ^ (k + 1) = v * 16 * 16 ^ k := by rw [Nat.pow_succ, Nat.mul_comm (16 ^ k), Nat.mul_assoc]
    have hp16 : 0 < 16 ^ k := Nat.pow_pos (by omega)
    by_cases hx : jHx (jBt B n a) < 16
    · have hlt := jBt_lt (B := B) (n := n) (a := a) rfl (jHx_lt hx)
      have hv2 : (16 * v + jHx (jBt B n a)) * 16 ^ k < 65536 := by
        have h1 : v * 16 ^ (k + 1) + 16 ^ (k + 1) ≤ 65536 := by
          have e4 : (65536 : Nat) = 16 ^ (3 - k) * 16 ^ (k + 1) := by
            rw [← Nat.pow_add]
            have : 3 - k + (k + 1) = 4 := by omega
            rw [this]
          rw [e4] at hv ⊢
          have h2 : v < 16 ^ (3 - k) := Nat.lt_of_mul_lt_mul_right hv
          have h3 : (v + 1) * 16 ^ (k + 1) ≤ 16 ^ (3 - k) * 16 ^ (k + 1) := Nat.mul_le_mul_right _ h2
          rw [Nat.add_mul, Nat.one_mul] at h3
          exact h3
        have h2 : (16 * v + jHx (jBt B n a)) * 16 ^ k < (16 * v + 16) * 16 ^ k := Nat.mul_lt_mul_of_pos_right (by omega) hp16
        have h3 : (16 * v + 16) * 16 ^ k = v * 16 ^ (k + 1) + 16 ^ (k + 1) := by
          rw [Nat.add_mul, Nat.pow_succ, Nat.mul_comm 16 v, Nat.mul_assoc, Nat.mul_comm (16 ^ k) 16]
        omega
      have ih := ih (16 * v + jHx (jBt B n a)) (a + 1) (by omega) hv2 hlt
      have go : ∀ r, fMt_escaped_72 (d + 6) c (nI z) (nI (16 * v + jHx (jBt B n a))) (nI (4 - k)) (mJ c (jTo p (a + 1)) s) = some r → fMt_escaped_72 (d + 6) c (nI z) (nI v) (nI (4 - (k + 1))) (mJ c (jTo p a) s) = some r := by
        intro r hr
        refine eMt_escaped_72 d c _ _ _ _ hc _ ?_
        simp (disch := omega) only [nI_lit 4, nI_leE]
        rw [if_neg (by omega), hl, cG_I, Mt_hex _ hb, cG_I, if_pos hx, if_neg (nI_pos (by omega))]
        refine eMt_escaped_83 d c _ _ _ _ _ hc _ ?_
        rw [Mt_need1 _ hc, cG_V, hl, cG_I, Mt_hex _ hb, cG_I, if_pos hx, wI_eq, mJ_at]
        simp only [nI_add1, mJ_to, nI_lit 16, pk_mul, nI_addE]
        have : 4 - (k + 1) + 1 = 4 - k := by omega
        rw [this]
        exact hr
      unfold jH4
      rw [if_pos hx]
      revert ih
      cases jH4 B n k (16 * v + jHx (jBt B n a)) (a + 1) with
      | error e => rintro ⟨a1, h⟩; exact ⟨a1, go _ h⟩
      | ok q =>
        obtain ⟨v1, a1⟩ := q
        simp only
        intro h
        by_cases h256 : v1 < 256
        · rw [if_pos h256] at h ⊢; exact go _ h
        · rw [if_neg h256] at h ⊢; exact go _ h
    · unfold jH4
      rw [if_neg hx]
      refine ⟨a, ?_⟩
      refine eMt_escaped_72 d c _ _ _ _ hc _ ?_
      simp (disch := omega) only [nI_lit 4, nI_leE]
      rw [if_neg (by omega), hl, cG_I, Mt_hex _ hb, cG_I, if_neg hx, if_pos (by decide)]
      refine eMt_escaped_83 d c _ _ _ _ _ hc _ ?_
      rw [mJ_at, Mt_need0 _ hc, cG_T]
      rfl
end
