/-! PURE: stored data -/
/-- a number stands from a to e -/
def kNu (B : Nat → Nat) (n a : Nat) (v : Int64) (e : Nat) : Prop := kVr B n a = .ok (v, e) ∧ kTp B a (e - a) = kVb v
/-- counted letters -/
def kSs2 (B : Nat → Nat) (n a e : Nat) : Prop := ∃ v b, kNu B n a v b ∧ 0 ≤ v.toInt ∧ e = b + v.toInt.toNat ∧ e ≤ n
/-- a datum of schema x stands from a to e -/
def kWq (q : kP) (B : Nat → Nat) (n : Nat) : Nat → Nat → Nat → Nat → Prop
  | 0, _, _, _ => False
  | D + 1, x, a, e => (a ≤ e ∧ e ≤ n) ∧
    (q.2.1 0 x = 0 → e = a) ∧ (q.2.1 0 x = 1 → e = a + 1) ∧ (q.2.1 0 x = 2 ∨ q.2.1 0 x = 3 → ∃ v, kNu B n a v e) ∧ (q.2.1 0 x = 4 ∨ q.2.1 0 x = 5 → kSs2 B n a e) ∧
    (q.2.1 0 x = 8 → ∃ i a1, i < q.2.1 4 x ∧ kNu B n a (Int64.ofNat i) a1 ∧ kWq q B n D (kPx q x i) a1 e) ∧
    (q.2.1 0 x = 9 → e = a + (q.2.1 8 x - 1)) ∧ (q.2.1 0 x = 10 → ∃ i, i < q.2.1 4 x ∧ kNu B n a (Int64.ofNat i) e) ∧
    (q.2.1 0 x = 11 → ∃ f : Nat → Nat, f 0 = a ∧ f (q.2.1 4 x) = e ∧ ∀ i, i < q.2.1 4 x → kWq q B n D (kPx q x i) (f i) (f (i + 1))) ∧
    (q.2.1 0 x = 6 ∨ q.2.1 0 x = 7 → ∃ k a1, k ≤ 2000 ∧ kNu B n a (Int64.ofNat k) a1 ∧ (k = 0 → e = a1) ∧ (k ≠ 0 → ∃ f g : Nat → Nat, f 0 = a1 ∧ kNu B n (f k) 0 e ∧ ∀ i, i < k → (if q.2.1 0 x = 7 then kSs2 B n (f i) (g i) else g i = f i) ∧ kWq q B n D (kPx q x 0) (g i) (f (i + 1))))
theorem kNu_le {B : Nat → Nat} {n a e : Nat} {v : Int64} (hB : ∀ i, B i < 256) (h : kNu B n a v e) : a < e ∧ e ≤ n := by
  have := kVr_len hB h.1
  exact ⟨this.2.1, this.2.2⟩
theorem kSs2_le {B : Nat → Nat} {n a e : Nat} (hB : ∀ i, B i < 256) (h : kSs2 B n a e) : a < e ∧ e ≤ n := by
  obtain ⟨v, b, h1, h2, h3, h4⟩ := h
  have := kNu_le hB h1
  omega
theorem kWq_le {q : kP} {B : Nat → Nat} {n D x a e : Nat} (h : kWq q B n D x a e) : a ≤ e ∧ e ≤ n := by
  cases D with
  | zero => exact h.elim
  | succ D => exact h.1
/-! the lake: skipping -/
section
variable {A n b pb qb m : Nat} {B : Nat → Nat} {q : kP} {T : Nat → Nat → Nat} {t : aT}
theorem oT_W {a : Nat} (h : lW b pb qb q T m t) : lW b pb qb q T m (oT a t) := lW_fr (fun k i h1 h2 => oT_o (by omega)) h
theorem ofN_i {i : Nat} (h : i < 2147483648) : (Int64.ofNat i).toInt32 = nI i := by
  rw [← nI_long h]
  exact Int32.toInt32_toInt64 _
theorem ofN_t {i : Nat} (h : i < 2147483648) : (Int64.ofNat i).toInt = (i : Int) := Int64.toInt_ofNat_of_lt (by omega)
/-- counted letters are skipped -/
theorem Te_skS (hi : lTi A B n t) (d : Nat) {a e : Nat} (h : kSs2 B n a e) {K : aT → aRs} : cG (fTe_varint d (oT a t)) (kL fun v13 s12 => wI s12 52 0 ((gI s12 52 0) + v13.toInt32) K) = K (oT e t) := by
  obtain ⟨v, b, h1, h2, h3, h4⟩ := h
  have hn := hi.2.2.1
  rw [Te_vi hi d h1.1, cG_L, wI_eq, oT_at, v_nat h2 (by omega), nI_addE, oT_w, ← h3]
theorem Te_sk5 (hi : lTi A B n t) (hw : lW b pb qb q T m t) (d : Nat) {a e x2 : Nat} (hx2 : x2 < 32) (h : kSs2 B n a e) : fTe_skip (d + 1) 5 (nI x2) (oT a t) = rV (oT e t) := by
  refine eTe_skip d _ _ _ _ ?_
  have g5 : gI (oT a t) 23 5 = nI 5 := by rw [oT_o (by omega)]; exact hw.1.2.2.1 5 (by omega)
  rw [if_pos (show nI x2 < 32 by rw [show (32 : Int32) = nI 32 from rfl, nI_ltE (by omega) (by omega)]; omega), show (5 : Int32) = nI 5 from rfl, ldI_n (by omega) (by omega), g5, if_neg (by decide), if_neg (by decide), if_neg (by decide), if_neg (by decide), if_neg (by decide), if_pos (by decide), Te_skS hi d h]
  rfl
end
