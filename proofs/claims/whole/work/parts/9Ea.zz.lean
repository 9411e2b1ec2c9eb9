/-! PURE: a number's sign goes to its lowest bit; how many letters it takes -/
theorem sh63 (x : BitVec 64) : x.sshiftRight 63 = if x.msb then BitVec.allOnes 64 else 0#64 := by
  apply BitVec.eq_of_getLsbD_eq
  intro i hi
  rw [BitVec.getLsbD_sshiftRight]
  have e : (if 63 + i < 64 then x.getLsbD (63 + i) else x.msb) = x.msb := by
    by_cases h : 63 + i < 64
    · have : i = 0 := by omega
      subst this
      rw [if_pos h, BitVec.msb_eq_getLsbD_last]
    · rw [if_neg h]
  rw [e]
  cases x.msb
  · simp
  · rw [if_pos rfl, BitVec.getLsbD_allOnes, Bool.and_true]
    simp only [hi, decide_true, Bool.not_eq_true', decide_eq_false_iff_not]
    omega
theorem zz_nat (y : Int64) : lU ((y <<< ((1 : Int32).toInt64 &&& 63)) ^^^ (y >>> ((63 : Int32).toInt64 &&& 63))) = if 0 ≤ y.toInt then 2 * y.toInt.toNat else 2 * (-y.toInt - 1).toNat + 1 := by
  have e1 : ((1 : Int32).toInt64 &&& 63) = 1 := by decide
  have e2 : ((63 : Int32).toInt64 &&& 63) = 63 := by decide
  rw [e1, e2]
  unfold lU
  have a1 : (y <<< (1 : Int64)).toBitVec = y.toBitVec <<< 1 := rfl
  have a2 : (y >>> (63 : Int64)).toBitVec = y.toBitVec.sshiftRight 63 := rfl
  rw [Int64.toBitVec_xor, a1, a2, sh63]
  have hy : y.toInt = y.toBitVec.toInt := rfl
  rw [hy]
  have hlt := y.toBitVec.isLt
  have hms := BitVec.msb_eq_decide y.toBitVec
  have hti := BitVec.toInt_eq_toNat_cond y.toBitVec
  by_cases h : 2 * y.toBitVec.toNat < 2 ^ 64
  · have hm : y.toBitVec.msb = false := by rw [hms]; simp only [decide_eq_false_iff_not]; omega
    rw [if_pos h] at hti
    rw [hm, if_neg (by decide), if_pos (by omega), BitVec.xor_zero, BitVec.toNat_shiftLeft, Nat.shiftLeft_eq]
    omega
  · have hm : y.toBitVec.msb = true := by rw [hms]; simp only [decide_eq_true_eq]; omega
    rw [if_neg h] at hti
    rw [hm, if_pos rfl, if_neg (by omega), BitVec.xor_allOnes, BitVec.toNat_not, BitVec.toNat_shiftLeft, Nat.shiftLeft_eq]
    omega
theorem kVu_len : ∀ k j u, 0 < j → u < 128 ^ j → (kVu k u).length ≤ j
  | 0, j, u, _, _ => Nat.zero_le _
  | k + 1, j, u, hj, hu => by
    show (if u < 128 then [u] else (u % 128 + 128) :: kVu k (u / 128)).length ≤ j
    by_cases h : u < 128
    · rw [if_pos h]; exact hj
    · rw [if_neg h, List.length_cons]
      obtain ⟨j, rfl⟩ : ∃ j', j = j' + 1 := ⟨j - 1, by omega⟩
      have hj0 : 0 < j := by
        by_cases e : j = 0
        · subst e; rw [Nat.zero_add, Nat.pow_one] at hu; omega
        · omega
      have := kVu_len k j (u / 128) hj0 (by rw [Nat.pow_succ] at hu; exact Nat.div_lt_of_lt_mul (by rw [Nat.mul_comm]; exact hu))
      omega
theorem p10_128 : ∀ t, 0 < t → 2 * 10 ^ t ≤ 128 ^ t
  | 0, h => absurd h (by omega)
  | 1, _ => by omega
  | t + 2, _ => by
    have ih := p10_128 (t + 1) (by omega)
    rw [Nat.pow_succ 10, Nat.pow_succ 128]
    omega
theorem kVb_len {x : Int} {t : Nat} (h1 : -9223372036854775808 ≤ x) (h2 : x ≤ 9223372036854775807) (ht : 0 < t) (h : x.natAbs < 10 ^ t) : (kVb (Int64.ofInt x)).length ≤ t := by
  unfold kVb
  refine kVu_len 10 t _ ht ?_
  rw [zz_nat, Int64.toInt_ofInt_of_le (by omega) (by omega)]
  have := p10_128 t ht
  split <;> omega
