/-! PURE: a number that was put is read again -/
/-- the sign's bit, there -/
def kZz (v : Int64) : Int64 := (v <<< ((1 : Int32).toInt64 &&& 63)) ^^^ (v >>> ((63 : Int32).toInt64 &&& 63))
theorem kZz_b (v : Int64) : (kZz v).toBitVec = (v.toBitVec <<< 1) ^^^ (if v.toBitVec.msb then BitVec.allOnes 64 else 0#64) := by
  have e1 : ((1 : Int32).toInt64 &&& 63) = 1 := by decide
  have e2 : ((63 : Int32).toInt64 &&& 63) = 63 := by decide
  unfold kZz
  rw [e1, e2]
  have a1 : (v <<< (1 : Int64)).toBitVec = v.toBitVec <<< 1 := rfl
  have a2 : (v >>> (63 : Int64)).toBitVec = v.toBitVec.sshiftRight 63 := rfl
  rw [Int64.toBitVec_xor, a1, a2, sh63]
theorem kVz_zz (v : Int64) : kVz (kZz v) = v := by
  apply Int64.toBitVec_inj.mp
  have hz : ∀ u : Int64, (kVz u).toBitVec = (u.toBitVec >>> 1) ^^^ (if u.toBitVec.getLsbD 0 then BitVec.allOnes 64 else 0#64) := by
    intro u
    show (kS1 u ^^^ (-(u &&& 1))).toBitVec = _
    rw [Int64.toBitVec_xor, kS1_b, neg1_b]
  have h0 : (kZz v).toBitVec.getLsbD 0 = v.toBitVec.msb := by
    rw [kZz_b, BitVec.getLsbD_xor, BitVec.getLsbD_shiftLeft]
    cases v.toBitVec.msb <;> simp
  rw [hz, h0]
  apply BitVec.eq_of_getLsbD_eq
  intro i hi
  rw [BitVec.getLsbD_xor, BitVec.getLsbD_ushiftRight, kZz_b, BitVec.getLsbD_xor, BitVec.getLsbD_shiftLeft]
  by_cases h63 : i = 63
  · subst h63
    have hm : v.toBitVec.msb = v.toBitVec.getLsbD 63 := by rw [BitVec.msb_eq_getLsbD_last]
    rw [← hm]
    cases v.toBitVec.msb <;> simp
  · have e1 : 1 + i < 64 := by omega
    cases v.toBitVec.msb
    · simp [e1]
    · have e2 : i < 64 := hi
      rw [if_pos rfl, BitVec.getLsbD_allOnes, BitVec.getLsbD_allOnes]
      simp [e1, e2]
theorem kVa_add {u : Int64} {k b : Nat} (hk : k ≤ 9) (hb : b < 256) (hu : lU u < 128 ^ k) (hs : lU u + (b % 128) * 128 ^ k < 2 ^ 64) : lU (kVa u k b) = lU u + (b % 128) * 128 ^ k := by
  have e : (128 : Nat) ^ k = 2 ^ (7 * k) := by rw [Nat.pow_mul]
  rw [kVa_u hk hb]
  rw [e] at hu hs ⊢
  have hsh : (b % 128) <<< (7 * k) = b % 128 * 2 ^ (7 * k) := Nat.shiftLeft_eq _ _
  rw [hsh, Nat.mod_eq_of_lt (by omega), Nat.or_comm, ← hsh, Nat.add_comm, Nat.shiftLeft_add_eq_or_of_lt hu]
theorem kVd_vu {B : Nat → Nat} {n fr : Nat} : ∀ f k a u w, 0 < f → f + k = 10 → lU u < 128 ^ k → lU u + w * 128 ^ k < 2 ^ 64 → a + (kVu f w).length ≤ n → (∀ i, i < (kVu f w).length → B (a + i) = (kVu f w).getD i 0) → w < 128 ^ f → ∃ x, kVd B n fr f k a u = .ok (kVz x, a + (kVu f w).length) ∧ lU x = lU u + w * 128 ^ k
  | 0, k, a, u, w, h0, hf, hu, hs, hn, hb, hw => absurd h0 (Nat.lt_irrefl _)
  | f + 1, k, a, u, w, _, hf, hu, hs, hn, hb, hw => by
    unfold kVd
    by_cases h : w < 128
    · have ek : kVu (f + 1) w = [w] := by unfold kVu; rw [if_pos h]
      rw [ek] at hn hb ⊢
      have hb0 := hb 0 (by show 0 < 1; omega)
      have hb0 : B a = w := hb0
      have hn : a + 1 ≤ n := hn
      have h9 : ¬ (k = 9 ∧ 1 < B a) := by
        rintro ⟨rfl, h1⟩
        have e9 : (128 : Nat) ^ 9 = 2 ^ 63 := by decide
        rw [hb0] at h1
        rw [e9] at hs
        have : 2 * 2 ^ 63 ≤ w * 2 ^ 63 := Nat.mul_le_mul_right _ h1
        omega
      rw [if_pos (by omega), if_neg h9, hb0, if_neg (by omega)]
      refine ⟨_, rfl, ?_⟩
      have hm : w % 128 = w := Nat.mod_eq_of_lt h
      rw [kVa_add (by omega) (by omega) hu (by rw [hm]; exact hs), hm]
    · have ek : kVu (f + 1) w = (w % 128 + 128) :: kVu f (w / 128) := by
        show (if w < 128 then [w] else (w % 128 + 128) :: kVu f (w / 128)) = _
        rw [if_neg h]
      rw [ek] at hn hb ⊢
      have hb0 : B a = w % 128 + 128 := hb 0 (by rw [List.length_cons]; omega)
      rw [List.length_cons] at hn
      have hb1 : ∀ i, i < (kVu f (w / 128)).length → B (a + 1 + i) = (kVu f (w / 128)).getD i 0 := by
        intro i hi
        have := hb (i + 1) (by rw [List.length_cons]; omega)
        rw [show a + (i + 1) = a + 1 + i by omega] at this
        rw [this]
        rfl
      have hk9 : k < 9 := by
        rcases Nat.lt_or_ge k 9 with g | g
        · exact g
        · have : k = 9 := by omega
          subst this
          have e9 : (128 : Nat) ^ 9 = 2 ^ 63 := by decide
          rw [e9] at hs
          have : 128 * 2 ^ 63 ≤ w * 2 ^ 63 := Nat.mul_le_mul_right _ (by omega)
          omega
      have hwd : w = w / 128 * 128 + w % 128 := by omega
      have hp : 0 < 128 ^ k := Nat.pow_pos (by omega)
      have hpow : (128 : Nat) ^ (k + 1) = 128 ^ k * 128 := Nat.pow_succ _ _
      have hmod : (w % 128 + 128) % 128 = w % 128 := by omega
      have hsum : lU u + w % 128 * 128 ^ k + w / 128 * 128 ^ (k + 1) = lU u + w * 128 ^ k := by
        rw [hpow, Nat.mul_comm (128 ^ k) 128, ← Nat.mul_assoc, Nat.add_assoc, ← Nat.add_mul, Nat.add_comm (w % 128), ← hwd]
      have hle : lU u + w % 128 * 128 ^ k < 2 ^ 64 := by
        have : 0 ≤ w / 128 * 128 ^ (k + 1) := Nat.zero_le _
        omega
      have hva := kVa_add (u := u) (k := k) (b := w % 128 + 128) (by omega) (by omega) hu (by rw [hmod]; exact hle)
      rw [hmod] at hva
      have hlt := kVa_lt (u := u) (k := k) (b := w % 128 + 128) (by omega) (by omega) hu
      obtain ⟨x, hx, hxu⟩ := kVd_vu (B := B) (n := n) (fr := fr) f (k + 1) (a + 1) (kVa u k (w % 128 + 128)) (w / 128) (by omega) (by omega) hlt (by rw [hva, hsum]; exact hs) (by omega) hb1 (by
        rw [Nat.pow_succ] at hw
        exact Nat.div_lt_of_lt_mul (by rw [Nat.mul_comm]; exact hw))
      refine ⟨x, ?_, by rw [hxu, hva, hsum]⟩
      rw [if_pos (by omega), if_neg (by omega), hb0, if_pos (by omega), hx, List.length_cons, show a + 1 + (kVu f (w / 128)).length = a + ((kVu f (w / 128)).length + 1) by omega]
/-- reading what was put -/
theorem kVr_vb {B : Nat → Nat} {n a : Nat} {v : Int64} (hn : a + (kVb v).length ≤ n) (hb : ∀ i, i < (kVb v).length → B (a + i) = (kVb v).getD i 0) : kVr B n a = .ok (v, a + (kVb v).length) := by
  have hlt : lU (kZz v) < 2 ^ 64 := (kZz v).toBitVec.isLt
  obtain ⟨x, hx, hxu⟩ := kVd_vu (B := B) (n := n) (fr := a) 10 0 a 0 (lU (kZz v)) (by omega) rfl (by decide) (by
    show lU 0 + lU (kZz v) * 128 ^ 0 < 2 ^ 64
    rw [Nat.pow_zero, Nat.mul_one, show lU 0 = 0 from rfl, Nat.zero_add]
    exact hlt) hn hb (Nat.lt_of_lt_of_le hlt (by decide))
  have e : x = kZz v := by
    apply Int64.toBitVec_inj.mp
    apply BitVec.eq_of_toNat_eq
    rw [Nat.pow_zero, Nat.mul_one, show lU 0 = 0 from rfl, Nat.zero_add] at hxu
    exact hxu
  rw [e, kVz_zz] at hx
  exact hx
