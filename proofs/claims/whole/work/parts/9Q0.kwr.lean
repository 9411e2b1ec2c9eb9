/-! PURE: letters of data, wherever they stand -/
def kSeq (P : Nat → Nat → Nat → Prop) : Nat → Nat → Nat → Nat → Prop
  | 0, _, a, e => e = a
  | k + 1, i, a, e => ∃ b, P i a b ∧ kSeq P k (i + 1) b e
theorem kSeq_m {P Q : Nat → Nat → Nat → Prop} (h : ∀ i a e, P i a e → Q i a e) : ∀ k i a e, kSeq P k i a e → kSeq Q k i a e
  | 0, _, _, _, hs => hs
  | k + 1, i, a, e, ⟨b, h1, h2⟩ => ⟨b, h _ _ _ h1, kSeq_m h k _ _ _ h2⟩
theorem kSeq_f {P : Nat → Nat → Nat → Prop} {f : Nat → Nat} : ∀ k i, (∀ j, i ≤ j → j < i + k → P j (f j) (f (j + 1))) → kSeq P k i (f i) (f (i + k))
  | 0, i, _ => rfl
  | k + 1, i, h => ⟨f (i + 1), h i (Nat.le_refl _) (by omega), by
    have := kSeq_f (P := P) (f := f) k (i + 1) (fun j h1 h2 => h j (by omega) (by omega))
    rw [show i + 1 + k = i + (k + 1) by omega] at this
    exact this⟩
/-- a datum of schema x stands from a to e; lists may be long -/
def kWr (q : kP) (B : Nat → Nat) (n : Nat) : Nat → Nat → Nat → Nat → Prop
  | 0, _, _, _ => False
  | D + 1, x, a, e => (a ≤ e ∧ e ≤ n) ∧
    (q.2.1 0 x = 0 → e = a) ∧ (q.2.1 0 x = 1 → e = a + 1) ∧ (q.2.1 0 x = 2 ∨ q.2.1 0 x = 3 → ∃ v, kNu B n a v e) ∧ (q.2.1 0 x = 4 ∨ q.2.1 0 x = 5 → kSs2 B n a e) ∧
    (q.2.1 0 x = 8 → ∃ i a1, i < q.2.1 4 x ∧ kNu B n a (Int64.ofNat i) a1 ∧ kWr q B n D (kPx q x i) a1 e) ∧
    (q.2.1 0 x = 9 → e = a + (q.2.1 8 x - 1)) ∧ (q.2.1 0 x = 10 → ∃ i, i < q.2.1 4 x ∧ kNu B n a (Int64.ofNat i) e) ∧
    (q.2.1 0 x = 11 → kSeq (fun i a e => kWr q B n D (kPx q x i) a e) (q.2.1 4 x) 0 a e) ∧
    (q.2.1 0 x = 6 ∨ q.2.1 0 x = 7 → ∃ k a1, k ≤ 100000 ∧ kNu B n a (Int64.ofNat k) a1 ∧ (k = 0 → e = a1) ∧ (k ≠ 0 → ∃ e1, kSeq (fun _ a e => ∃ g, (if q.2.1 0 x = 7 then kSs2 B n a g else g = a) ∧ kWr q B n D (kPx q x 0) g e) k 0 a1 e1 ∧ kNu B n e1 0 e))
section
variable {q : kP} {B B' : Nat → Nat} {n n' : Nat}
theorem kWr_le {D x a e : Nat} (h : kWr q B n D x a e) : a ≤ e ∧ e ≤ n := by
  cases D with
  | zero => exact h.elim
  | succ D => exact h.1
theorem kWq_wr : ∀ D x a e, kWq q B n D x a e → kWr q B n D x a e
  | 0, _, _, _, h => h.elim
  | D + 1, x, a, e, h => by
    obtain ⟨hle, w0, w1, w2, w4, w8, w9, w10, w11, w6⟩ := h
    refine ⟨hle, w0, w1, w2, w4, fun h => ?_, w9, w10, fun h => ?_, fun h => ?_⟩
    · obtain ⟨i, a1, i1, i2, i3⟩ := w8 h
      exact ⟨i, a1, i1, i2, kWq_wr D _ _ _ i3⟩
    · obtain ⟨f, f0, f1, f2⟩ := w11 h
      have := kSeq_f (P := fun i a e => kWr q B n D (kPx q x i) a e) (f := f) (q.2.1 4 x) 0 (fun j _ h2 => kWq_wr D _ _ _ (f2 j (by omega)))
      rw [Nat.zero_add, f0, f1] at this
      exact this
    · obtain ⟨k, a1, k1, k2, k3, k4⟩ := w6 h
      refine ⟨k, a1, by omega, k2, k3, fun k0 => ?_⟩
      obtain ⟨f, g, f0, f1, f2⟩ := k4 k0
      have := kSeq_f (P := fun _ a e => ∃ g, (if q.2.1 0 x = 7 then kSs2 B n a g else g = a) ∧ kWr q B n D (kPx q x 0) g e) (f := f) k 0 (fun j _ h2 => ⟨g j, (f2 j (by omega)).1, kWq_wr D _ _ _ (f2 j (by omega)).2⟩)
      rw [Nat.zero_add, f0] at this
      exact ⟨f k, this, f1⟩
theorem kWr_s : ∀ D x a e, kWr q B n D x a e → kWr q B n (D + 1) x a e
  | 0, _, _, _, h => h.elim
  | D + 1, x, a, e, h => by
    obtain ⟨hle, w0, w1, w2, w4, w8, w9, w10, w11, w6⟩ := h
    refine ⟨hle, w0, w1, w2, w4, fun h => ?_, w9, w10, fun h => kSeq_m (fun i a e hh => kWr_s D _ _ _ hh) _ _ _ _ (w11 h), fun h => ?_⟩
    · obtain ⟨i, a1, i1, i2, i3⟩ := w8 h
      exact ⟨i, a1, i1, i2, kWr_s D _ _ _ i3⟩
    · obtain ⟨k, a1, k1, k2, k3, k4⟩ := w6 h
      refine ⟨k, a1, k1, k2, k3, fun k0 => ?_⟩
      obtain ⟨e1, f1, f2⟩ := k4 k0
      exact ⟨e1, kSeq_m (fun i a e hh => by obtain ⟨g, g1, g2⟩ := hh; exact ⟨g, g1, kWr_s D _ _ _ g2⟩) _ _ _ _ f1, f2⟩
theorem kWr_mo {x a e : Nat} : ∀ j D, kWr q B n D x a e → kWr q B n (D + j) x a e
  | 0, D, h => h
  | j + 1, D, h => kWr_s (D + j) x a e (kWr_mo j D h)
/-- letters stand at a place -/
def kLz (B : Nat → Nat) (off : Nat) (M : List Nat) : Prop := ∀ j, j < M.length → B (off + j) = M.getD j 0
theorem kLz_l {off : Nat} {L M : List Nat} (h : kLz B off (L ++ M)) : kLz B off L := fun j hj => by
  rw [h j (by rw [List.length_append]; omega), getD_l hj]
theorem kLz_r {off : Nat} {L M : List Nat} (h : kLz B off (L ++ M)) : kLz B (off + L.length) M := fun j hj => by
  rw [show off + L.length + j = off + (L.length + j) by omega, h _ (by rw [List.length_append]; omega), getD_r (by omega), show L.length + j - L.length = j by omega]
theorem kNu_lt {off : Nat} {v : Int64} (h : kLz B off (kVb v)) (hn : off + (kVb v).length ≤ n) : kNu B n off v (off + (kVb v).length) := kNu_vb hn h
/-- counted letters, elsewhere -/
theorem kSs2_lt (hB : ∀ i, B i < 256) {a e off : Nat} (h : kSs2 B n a e) (hl : kLz B' off (kTp B a (e - a))) (hn : off + (e - a) ≤ n') : kSs2 B' n' off (off + (e - a)) := by
  obtain ⟨v, b, h1, h2, h3, h4⟩ := h
  have hle := kNu_le hB h1
  have hlen : (kVb v).length = b - a := by rw [← h1.2, kTp_len]
  refine ⟨v, off + (b - a), ?_, h2, by omega, by omega⟩
  have := kNu_vb (B := B') (n := n') (a := off) (v := v) (by omega) (fun i hi => by
    rw [hl i (by rw [kTp_len]; omega), kTp_gd (by omega), ← h1.2, kTp_gd (by omega)])
  rw [hlen] at this
  exact this
theorem kNu_l2 (hB : ∀ i, B i < 256) {a e off : Nat} {v : Int64} (h : kNu B n a v e) (hl : kLz B' off (kTp B a (e - a))) (hn : off + (e - a) ≤ n') : kNu B' n' off v (off + (e - a)) := by
  have hlen : (kVb v).length = e - a := by rw [← h.2, kTp_len]
  rw [h.2] at hl
  have := kNu_vb (B := B') (n := n') (a := off) (v := v) (by omega) hl
  rw [hlen] at this
  exact this
end
