/-! PURE: looking at a row: numbers -/
/-- seven bits more -/
def kVa (u : Int64) (k b : Nat) : Int64 := u ||| (((nI b &&& 127).toInt64) <<< ((7 * nI k).toInt64 &&& 63))
/-- the sign from the lowest bit -/
def kVz (u : Int64) : Int64 := ((u.toUInt64 >>> ((1 : Int32).toInt64.toUInt64 &&& Int64.toUInt64 63)).toInt64) ^^^ (-(u &&& 1))
def kVd (B : Nat → Nat) (n fr : Nat) : Nat → Nat → Nat → Int64 → Except (Nat × Nat) (Int64 × Nat)
  | 0, _, _, _ => .error (2, fr)
  | f + 1, k, a, u => if a < n then (if k = 9 ∧ 1 < B a then .error (2, fr) else if 128 ≤ B a then kVd B n fr f (k + 1) (a + 1) (kVa u k (B a)) else .ok (kVz (kVa u k (B a)), a + 1)) else .error (1, n)
/-- a number: what it is, and where it ends -/
def kVr (B : Nat → Nat) (n a : Nat) : Except (Nat × Nat) (Int64 × Nat) := kVd B n a 10 0 a 0
theorem kVa_u {u : Int64} {k b : Nat} (hk : k ≤ 9) (hb : b < 256) : lU (kVa u k b) = lU u ||| ((b % 128) <<< (7 * k)) % 2 ^ 64 := by
  unfold kVa lU
  have e1 : ((7 * nI k).toInt64 &&& 63) = Int64.ofNat (7 * k) := by
    have : ∀ k, k ≤ 9 → ((7 * nI k).toInt64 &&& 63) = Int64.ofNat (7 * k) := by decide +kernel
    exact this k hk
  have e2 : (nI b &&& 127).toInt64 = Int64.ofNat (b % 128) := by
    have : ∀ b, b < 256 → (nI b &&& 127).toInt64 = Int64.ofNat (b % 128) := by decide +kernel
    exact this b hb
  rw [e1, e2, Int64.toBitVec_or, BitVec.toNat_or]
  have e3 : (Int64.ofNat (b % 128) <<< Int64.ofNat (7 * k)).toBitVec = BitVec.ofNat 64 (b % 128) <<< (7 * k) := by
    have : ∀ k, k ≤ 9 → ∀ x : Int64, (x <<< Int64.ofNat (7 * k)).toBitVec = x.toBitVec <<< (7 * k) := by
      intro k hk x
      have h : k = 0 ∨ k = 1 ∨ k = 2 ∨ k = 3 ∨ k = 4 ∨ k = 5 ∨ k = 6 ∨ k = 7 ∨ k = 8 ∨ k = 9 := by omega
      rcases h with rfl | rfl | rfl | rfl | rfl | rfl | rfl | rfl | rfl | rfl <;> rfl
    rw [this k hk]
    rfl
  rw [e3, BitVec.toNat_shiftLeft, BitVec.toNat_ofNat, Nat.mod_eq_of_lt (show b % 128 < 2 ^ 64 by omega)]
theorem kVa_lt {u : Int64} {k b : Nat} (hk : k ≤ 9) (hb : b < 256) (hu : lU u < 128 ^ k) : lU (kVa u k b) < 128 ^ (k + 1) := by
  rw [kVa_u hk hb]
  have e : ∀ j, (128 : Nat) ^ j = 2 ^ (7 * j) := fun j => by rw [Nat.pow_mul]
  rw [e] at hu ⊢
  refine Nat.or_lt_two_pow (Nat.lt_of_lt_of_le hu (Nat.pow_le_pow_right (by omega) (by omega))) ?_
  refine Nat.lt_of_le_of_lt (Nat.mod_le _ _) ?_
  rw [Nat.shiftLeft_eq, show 7 * (k + 1) = 7 + 7 * k by omega, Nat.pow_add]
  exact Nat.mul_lt_mul_of_pos_right (show b % 128 < 2 ^ 7 from Nat.mod_lt _ (by omega)) (Nat.pow_pos (by omega))
theorem neg1_b (u : Int64) : (-(u &&& 1)).toBitVec = if u.toBitVec.getLsbD 0 then BitVec.allOnes 64 else 0#64 := by
  have h := l_and1 u
  have e : (-(u &&& 1)).toBitVec = -((u &&& 1).toBitVec) := rfl
  rw [e, h]
  cases u.toBitVec.getLsbD 0
  · rfl
  · rfl
theorem kVz_inv (u : Int64) : lU ((kVz u <<< ((1 : Int32).toInt64 &&& 63)) ^^^ (kVz u >>> ((63 : Int32).toInt64 &&& 63))) = lU u := by
  have e1 : ((1 : Int32).toInt64 &&& 63) = 1 := by decide
  have e2 : ((63 : Int32).toInt64 &&& 63) = 63 := by decide
  rw [e1, e2]
  unfold lU
  have a1 : (kVz u <<< (1 : Int64)).toBitVec = (kVz u).toBitVec <<< 1 := rfl
  have a2 : (kVz u >>> (63 : Int64)).toBitVec = (kVz u).toBitVec.sshiftRight 63 := rfl
  rw [Int64.toBitVec_xor, a1, a2, sh63]
  have hz : (kVz u).toBitVec = (u.toBitVec >>> 1) ^^^ (if u.toBitVec.getLsbD 0 then BitVec.allOnes 64 else 0#64) := by
    show (kS1 u ^^^ (-(u &&& 1))).toBitVec = _
    rw [Int64.toBitVec_xor, kS1_b, neg1_b]
  congr 1
  apply BitVec.eq_of_getLsbD_eq
  intro i hi
  rw [BitVec.getLsbD_xor, BitVec.getLsbD_shiftLeft]
  have hm : (kVz u).toBitVec.msb = u.toBitVec.getLsbD 0 := by
    rw [hz, BitVec.msb_xor]
    have h1 : (u.toBitVec >>> 1).msb = false := by
      rw [BitVec.msb_eq_getLsbD_last, BitVec.getLsbD_ushiftRight]
      exact BitVec.getLsbD_of_ge _ _ (by omega)
    rw [h1, Bool.false_xor]
    cases u.toBitVec.getLsbD 0 <;> rfl
  rw [hm, hz]
  by_cases h0 : i = 0
  · subst h0
    cases u.toBitVec.getLsbD 0 <;> simp
  · rw [BitVec.getLsbD_xor, BitVec.getLsbD_ushiftRight, show 1 + (i - 1) = i by omega]
    cases hb : u.toBitVec.getLsbD 0
    · simp [h0, hi]
    · have h63 : i - 1 < 64 := by omega
      rw [if_pos rfl, BitVec.getLsbD_allOnes, BitVec.getLsbD_allOnes]
      simp [h0, hi, h63]
theorem kVd_len {B : Nat → Nat} {n fr : Nat} (hB : ∀ i, B i < 256) : ∀ f k a u v a', f + k = 10 → lU u < 128 ^ k → kVd B n fr f k a u = .ok (v, a') → (kVb v).length + a ≤ a' + k ∧ a < a' ∧ a' ≤ n
  | 0, k, a, u, v, a', _, _, h => by cases h
  | f + 1, k, a, u, v, a', hf, hu, h => by
    unfold kVd at h
    split at h
    · rename_i han
      split at h
      · cases h
      · have hlt := kVa_lt (k := k) (b := B a) (by omega) (hB a) hu
        split at h
        · obtain ⟨h1, h2, h3⟩ := kVd_len hB f (k + 1) (a + 1) _ v a' (by omega) hlt h
          exact ⟨by omega, by omega, h3⟩
        · cases h
          refine ⟨?_, by omega, by omega⟩
          unfold kVb
          rw [kVz_inv]
          have := kVu_len 10 (k + 1) _ (by omega) hlt
          omega
    · cases h
theorem kVr_len {B : Nat → Nat} {n a a' : Nat} {v : Int64} (hB : ∀ i, B i < 256) (h : kVr B n a = .ok (v, a')) : (kVb v).length + a ≤ a' ∧ a < a' ∧ a' ≤ n := by
  have := kVd_len hB 10 0 a 0 v a' rfl (by decide) h
  omega
theorem kVd_err {B : Nat → Nat} {n fr : Nat} : ∀ f k a u e, kVd B n fr f k a u = .error e → (e.1 = 1 ∧ e.2 = n) ∨ (e.1 = 2 ∧ e.2 = fr)
  | 0, k, a, u, e, h => by cases h; exact .inr ⟨rfl, rfl⟩
  | f + 1, k, a, u, e, h => by
    unfold kVd at h
    split at h
    · split at h
      · cases h; exact .inr ⟨rfl, rfl⟩
      · split at h
        · exact kVd_err f (k + 1) (a + 1) _ e h
        · cases h
    · cases h; exact .inl ⟨rfl, rfl⟩
