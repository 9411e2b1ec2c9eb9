/-! PURE: numbers in bytes -/
/-- a number's letters: seven bits each, the lowest first -/
def kVu : Nat → Nat → List Nat
  | 0, _ => []
  | k + 1, u => if u < 128 then [u] else (u % 128 + 128) :: kVu k (u / 128)
def lU (x : Int64) : Nat := x.toBitVec.toNat
theorem v_low (x : Int64) : (x &&& 127).toInt32 = nI (lU x % 128) := by
  apply Int32.toBitVec_inj.mp
  apply BitVec.eq_of_toNat_eq
  have e : (x &&& 127).toBitVec.toNat = lU x % 128 := by
    rw [Int64.toBitVec_and, BitVec.toNat_and]
    show x.toBitVec.toNat &&& 127 = _
    exact Nat.and_two_pow_sub_one_eq_mod x.toBitVec.toNat 7
  rw [Int64.toBitVec_toInt32, BitVec.signExtend_eq_setWidth_of_le _ (by omega), BitVec.toNat_setWidth, e]
  show _ = lU x % 128 % 4294967296
  omega
theorem v_hi (x : Int64) : (aLcmp (x &&& (-128)) 0 = 0) = (lU x < 128) := by
  rw [aLcmp_eq]
  apply propext
  rw [Int64.toInt_inj, ← Int64.toBitVec_inj, Int64.toBitVec_and]
  constructor
  · intro h
    have h1 : ∀ i, i < 64 → 7 ≤ i → x.toBitVec.getLsbD i = false := by
      intro i hi h7
      have h2 := congrArg (fun y => y.getLsbD i) h
      simp only [BitVec.getLsbD_and] at h2
      have h3 : (-128 : Int64).toBitVec.getLsbD i = true := by
        have : ∀ i, i < 64 → 7 ≤ i → (-128 : Int64).toBitVec.getLsbD i = true := by decide
        exact this i hi h7
      rw [h3, Bool.and_true] at h2
      rw [h2]
      have : ∀ i, (0 : Int64).toBitVec.getLsbD i = false := fun i => by simp
      exact this i
    show x.toBitVec.toNat < 2 ^ 7
    refine Nat.lt_pow_two_of_testBit _ (fun i hi => ?_)
    by_cases h64 : i < 64
    · exact h1 i h64 hi
    · exact Nat.testBit_lt_two_pow (Nat.lt_of_lt_of_le x.toBitVec.isLt (Nat.pow_le_pow_right (by omega) (by omega)))
  · intro h
    apply BitVec.eq_of_toNat_eq
    rw [BitVec.toNat_and]
    show x.toBitVec.toNat &&& 18446744073709551488 = 0
    have hx : x.toBitVec.toNat < 2 ^ 7 := h
    apply Nat.eq_of_testBit_eq
    intro i
    rw [Nat.testBit_and, Nat.zero_testBit]
    by_cases h7 : i < 7
    · have : ∀ i, i < 7 → Nat.testBit 18446744073709551488 i = false := by decide
      rw [this i h7, Bool.and_false]
    · rw [Nat.testBit_lt_two_pow (Nat.lt_of_lt_of_le hx (Nat.pow_le_pow_right (by omega) (by omega))), Bool.false_and]
theorem v_sh (x : Int64) : lU ((x.toUInt64 >>> ((7 : Int32).toInt64.toUInt64 &&& Int64.toUInt64 63)).toInt64) = lU x / 128 := by
  have e : ((7 : Int32).toInt64.toUInt64 &&& Int64.toUInt64 63) = 7 := by decide
  rw [e]
  show (x.toUInt64 >>> 7).toNat = _
  rw [UInt64.toNat_shiftRight]
  show x.toBitVec.toNat >>> 7 = _
  rw [Nat.shiftRight_eq_div_pow]
  rfl
/-- letters behind the pool -/
def kPb (L : List Nat) (q : kP) : kP := kPp (fun i => L.getD i 0) L.length q
theorem kPb_nil {q : kP} : kPb [] q = q := by
  unfold kPb kPp
  refine Prod.ext ?_ (Prod.ext ?_ rfl)
  · funext j
    show (if j = 6 then q.1 6 + 0 else q.1 j) = q.1 j
    split
    · rename_i e; rw [e]; rfl
    · rfl
  · funext r i
    show (if r = 40 ∧ q.1 6 ≤ i ∧ i < q.1 6 + 0 then _ else q.2.1 r i) = q.2.1 r i
    rw [if_neg (by omega)]
theorem kPb_cons {a : Nat} {L : List Nat} {q : kP} : kPb (a :: L) q = kPb L (kPp (fun _ => a) 1 q) := by
  unfold kPb kPp
  refine Prod.ext ?_ (Prod.ext ?_ rfl)
  · funext j
    show (if j = 6 then q.1 6 + (L.length + 1) else q.1 j) = (if j = 6 then (if 6 = 6 then q.1 6 + 1 else q.1 6) + L.length else (if j = 6 then q.1 6 + 1 else q.1 j))
    by_cases h : j = 6
    · rw [if_pos h, if_pos h, if_pos rfl]; omega
    · rw [if_neg h, if_neg h, if_neg h]
  · funext r i
    show (if r = 40 ∧ q.1 6 ≤ i ∧ i < q.1 6 + (L.length + 1) then (a :: L).getD (i - q.1 6) 0 else q.2.1 r i) = (if r = 40 ∧ q.1 6 + 1 ≤ i ∧ i < q.1 6 + 1 + L.length then L.getD (i - (q.1 6 + 1)) 0 else if r = 40 ∧ q.1 6 ≤ i ∧ i < q.1 6 + 1 then a else q.2.1 r i)
    by_cases h1 : r = 40 ∧ q.1 6 + 1 ≤ i ∧ i < q.1 6 + 1 + L.length
    · rw [if_pos h1, if_pos (by omega), show i - q.1 6 = (i - (q.1 6 + 1)) + 1 by omega]
      rfl
    · rw [if_neg h1]
      by_cases h2 : r = 40 ∧ q.1 6 ≤ i ∧ i < q.1 6 + 1
      · rw [if_pos h2, if_pos (by omega), show i - q.1 6 = 0 by omega]
        rfl
      · rw [if_neg h2, if_neg (by omega)]
theorem kPb_app {L M : List Nat} {q : kP} : kPb (L ++ M) q = kPb M (kPb L q) := by
  induction L generalizing q with
  | nil => rw [kPb_nil]; rfl
  | cons a L ih => rw [List.cons_append, kPb_cons, kPb_cons, ih]
theorem kPb_6 {L : List Nat} {q : kP} : (kPb L q).1 6 = q.1 6 + L.length := rfl
theorem nI_or0 (x : Nat) : (0 : Int32) ||| nI x = nI x := Int32.zero_or
theorem nI_or128 : ∀ x, x < 128 → nI x ||| 128 = nI (x + 128) := by decide +kernel
section
variable {b pb qb : Nat} {q : kP} {s : aT}
theorem Lp_vu (d : Nat) : ∀ k x j q, j + k = 10 → qb + q.1 6 + (kVu k (lU x)).length ≤ 72704 → fBy_putVarint_10 (d + 1) 32 x (nI j) (lS b pb qb q s) = rI 1 (lS b pb qb (kPb (kVu k (lU x)) q) s) := by
  intro k
  induction k with
  | zero =>
    intro x j q hj _
    refine eBy_putVarint_10 d 32 _ _ _ isB_32 _ ?_
    have : j = 10 := by omega
    subst this
    rw [if_pos (by decide)]
    show _ = rI 1 (lS b pb qb (kPb [] q) s)
    rw [kPb_nil]
  | succ k ih =>
    intro x j q hj hq
    refine eBy_putVarint_10 d 32 _ _ _ isB_32 _ ?_
    have e10 : ¬ (10 : Int32) ≤ nI j := by rw [nI_lit 10, nI_leE (by omega) (by omega)]; omega
    rw [if_neg e10]
    simp only [v_hi]
    by_cases h : lU x < 128
    · have ek : kVu (k + 1) (lU x) = [lU x] := by show (if lU x < 128 then _ else _) = _; rw [if_pos h]
      rw [ek] at hq ⊢
      have hq1 : qb + q.1 6 < 72704 := by have : [lU x].length = 1 := rfl; omega
      rw [if_neg (fun e => e h)]
      refine eBy_putVarint_22 d 32 _ _ _ _ isB_32 _ ?_
      rw [if_neg (by decide)]
      refine eBy_putVarint_33 d 32 _ _ _ _ _ _ isB_32 _ ?_
      have eu : (x &&& 127).toInt32 ||| 0 = nI (lU x) := by rw [v_low, Int32.or_zero, Nat.mod_eq_of_lt h]
      rw [eu, Lp_put d (by omega) hq1, cG_I, if_pos (by decide), if_neg (by decide), kPb_cons, kPb_nil]
      rfl
    · have ek : kVu (k + 1) (lU x) = (lU x % 128 + 128) :: kVu k (lU x / 128) := by show (if lU x < 128 then _ else _) = _; rw [if_neg h]
      rw [ek] at hq ⊢
      rw [List.length_cons] at hq
      rw [if_pos h]
      refine eBy_putVarint_22 d 32 _ _ _ _ isB_32 _ ?_
      rw [if_pos (by decide)]
      refine eBy_putVarint_33 d 32 _ _ _ _ _ _ isB_32 _ ?_
      have eu : (x &&& 127).toInt32 ||| 128 = nI (lU x % 128 + 128) := by rw [v_low, nI_or128 _ (by omega)]
      have h6 : (kPp (fun _ => lU x % 128 + 128) 1 q).1 6 = q.1 6 + 1 := rfl
      have ihh := ih ((x.toUInt64 >>> ((7 : Int32).toInt64.toUInt64 &&& Int64.toUInt64 63)).toInt64) (j + 1) (kPp (fun _ => lU x % 128 + 128) 1 q) (by omega) (by rw [v_sh, h6]; omega)
      rw [v_sh] at ihh
      rw [eu, Lp_put d (by omega) (by omega), cG_I, if_pos (by decide), if_pos rfl, nI_add1, ihh, kPb_cons]
      rfl
/-- a number's letters, as the lake puts them -/
def kVb (y : Int64) : List Nat := kVu 10 (lU ((y <<< ((1 : Int32).toInt64 &&& 63)) ^^^ (y >>> ((63 : Int32).toInt64 &&& 63))))
theorem Lp_vi (d : Nat) {y : Int64} (hq : qb + q.1 6 + (kVb y).length ≤ 72704) : fBy_putVarint (d + 1) 32 y (lS b pb qb q s) = rI 1 (lS b pb qb (kPb (kVb y) q) s) := by
  refine eBy_putVarint d 32 _ _ isB_32 _ ?_
  exact Lp_vu d 10 _ 0 q rfl hq
end
