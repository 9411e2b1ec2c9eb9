/-! PURE: what is told is a datum of the reader's schema -/
section
variable {q1 q2 : kP} {dW : Nat → Nat → List Nat} {B : Nat → Nat} {n : Nat} {T : Nat → Nat → Nat} {m : Nat}
def kDz (q : kP) (dW : Nat → Nat → List Nat) : Prop := ∀ y j, y < q.1 1 → q.2.1 0 y = 11 → j < q.2.1 4 y → q.2.2 3 y j ≠ 0 → kWz q 50 (kPx q y j) (dW y j)
def kRwz (q1 q2 : kP) (B : Nat → Nat) (n D E : Nat) (rec : kTq) : Prop := ∀ x y a e M, y < q2.1 1 → kWq q1 B n D x a e → rec x y a e M true → kWz q2 E y M
theorem kTf_wz (hI : kIv T m q2) (hcd : kCd q2) (hdz : kDz q2 dW) {rec : kTq} {D E : Nat} (hE : 50 ≤ E) (hr : kRwz q1 q2 B n D E rec) {x y : Nat} (hy : y < q2.1 1) (y11 : q2.2.1 0 y = 11) {f : Nat → Nat} (hf : ∀ i, i < q1.2.1 4 x → kWq q1 B n D (kPx q1 x i) (f i) (f (i + 1))) : ∀ k j L, j + k ≤ q2.2.1 4 y → kTf q1 q2 dW rec x y f k j L true → ∀ B' n' off, kLz B' off L → off + L.length ≤ n' → kSeq (fun i a e => kWr q2 B' n' E (kPx q2 y i) a e) k j off (off + L.length)
  | 0, _, L, _, h, B', n', off, _, _ => by rw [h.1]; rfl
  | k + 1, j, L, hj, h, B', n', off, hL, hn => by
    have y6 := (kKi hI hy).2.mp (by omega)
    have hp := (kPx_lt hI hcd y6 hy (by omega) (by omega) (i := j) (by omega)).2
    unfold kTf at h
    by_cases h0 : kPk q1 q2 x y j = 0
    · rw [if_pos h0] at h
      by_cases h3 : q2.2.2 3 y j = 0
      · rw [if_pos h3] at h
        cases h.2
      · rw [if_neg h3] at h
        obtain ⟨L', e, h⟩ := h
        subst e
        rw [List.length_append] at hn ⊢
        have hz := hdz y j hy y11 (by omega) h3 B' n' off (kLz_l hL) (by omega)
        have hz2 := kWr_mo (E - 50) 50 hz
        rw [show 50 + (E - 50) = E by omega] at hz2
        refine ⟨off + (dW y j).length, hz2, ?_⟩
        rw [← Nat.add_assoc]
        exact kTf_wz hI hcd hdz hE hr hy y11 hf k _ _ (by omega) h B' n' _ (kLz_r hL) (by omega)
    · rw [if_neg h0] at h
      have hk := kPk_le (q1 := q1) (q2 := q2) (x := x) (y := y) (j := j)
      obtain ⟨L1, b1, h1, h2⟩ := h
      cases b1 with
      | true =>
        rw [if_pos rfl] at h2
        obtain ⟨L2, e, h2⟩ := h2
        subst e
        rw [List.length_append] at hn ⊢
        refine ⟨off + L1.length, hr _ _ _ _ _ hp (hf _ (by omega)) h1 B' n' off (kLz_l hL) (by omega), ?_⟩
        rw [← Nat.add_assoc]
        exact kTf_wz hI hcd hdz hE hr hy y11 hf k _ _ (by omega) h2 B' n' _ (kLz_r hL) (by omega)
      | false =>
        rw [if_neg (by decide)] at h2
        cases h2.2
theorem kTi_wz (hB : ∀ i, B i < 256) {rec : kTq} {D E : Nat} (hr : kRwz q1 q2 B n D E rec) {x y : Nat} (hp : kPx q2 y 0 < q2.1 1) (e67 : q1.2.1 0 x = q2.2.1 0 y) {f g : Nat → Nat} {c : Nat} (hf : ∀ i, i < c → (if q1.2.1 0 x = 7 then kSs2 B n (f i) (g i) else g i = f i) ∧ kWq q1 B n D (kPx q1 x 0) (g i) (f (i + 1))) : ∀ k i L, i + k = c → kTi q1 q2 B rec x y f g k i L true → ∀ B' n' off, kLz B' off L → off + L.length ≤ n' → ∃ e1, kSeq (fun _ a e => ∃ g, (if q2.2.1 0 y = 7 then kSs2 B' n' a g else g = a) ∧ kWr q2 B' n' E (kPx q2 y 0) g e) k i off e1 ∧ kNu B' n' e1 0 (off + L.length)
  | 0, _, L, _, h, B', n', off, hL, hn => by
    obtain ⟨h1, _⟩ := h
    subst h1
    exact ⟨off, rfl, kNu_lt (v := 0) hL hn⟩
  | k + 1, i, L, hi, h, B', n', off, hL, hn => by
    unfold kTi at h
    obtain ⟨L1, b1, h1, h2⟩ := h
    obtain ⟨f1, f2⟩ := hf i (by omega)
    cases b1 with
    | true =>
      rw [if_pos rfl] at h2
      obtain ⟨L2, e, h2⟩ := h2
      subst e
      have hL1 := kLz_l hL
      have hL2 := kLz_r hL
      have hL3 := kLz_l hL2
      have hL4 := kLz_r hL2
      rw [List.length_append, List.length_append, kTp_len] at hn
      rw [kTp_len] at hL2 hL3 hL4
      obtain ⟨e1, z1, z2⟩ := kTi_wz hB hr hp e67 hf k (i + 1) L2 (by omega) h2 B' n' (off + (g i - f i) + L1.length) hL4 (by omega)
      refine ⟨e1, ⟨off + (g i - f i) + L1.length, ⟨off + (g i - f i), ?_, hr _ _ _ _ _ hp f2 h1 B' n' _ hL3 (by omega)⟩, z1⟩, ?_⟩
      · by_cases h7 : q1.2.1 0 x = 7
        · rw [if_pos h7] at f1
          rw [if_pos (by omega)]
          exact kSs2_lt hB f1 hL1 (by omega)
        · rw [if_neg h7] at f1
          rw [if_neg (by omega), f1, Nat.sub_self, Nat.add_zero]
      · rw [List.length_append, List.length_append, kTp_len, ← Nat.add_assoc, ← Nat.add_assoc]
        exact z2
    | false =>
      rw [if_neg (by decide)] at h2
      cases h2.2
theorem kTn_wz (hB : ∀ i, B i < 256) (hI : kIv T m q2) (hcd : kCd q2) (hdz : kDz q2 dW) {rec : kTq} {D E : Nat} (hE : 50 ≤ E) (hr : kRwz q1 q2 B n D E rec) {x y a e : Nat} {M : List Nat} (hy : y < q2.1 1) (x8 : q1.2.1 0 x ≠ 8) (hw : kWq q1 B n (D + 1) x a e) (h : kTn q1 q2 dW B n D rec x y a e M true) : kWz q2 (E + 1) y M := by
  intro B' n' off hL hn
  unfold kTn at h
  by_cases ha : kAi q1 q2 x y = true
  · rw [if_pos ha] at h
    have hai := of_decide_eq_true ha
    by_cases h67 : q1.2.1 0 x = 6 ∨ q1.2.1 0 x = 7
    · rw [if_pos h67] at h
      have e67 := kAi_67 ha (by omega)
      have y6 := (kKi hI hy).2.mp (by omega)
      have h14 : q2.2.1 4 y = 1 := (hcd y y6 hy).1.2.2.1 (by rw [← e67]; exact h67)
      have hp := (kPx_lt hI hcd y6 hy (by omega) (by omega) (i := 0) (by omega)).2
      have hk1 : q2.2.1 0 y ≠ 0 ∧ q2.2.1 0 y ≠ 1 ∧ q2.2.1 0 y ≠ 2 ∧ q2.2.1 0 y ≠ 3 ∧ q2.2.1 0 y ≠ 4 ∧ q2.2.1 0 y ≠ 5 ∧ q2.2.1 0 y ≠ 8 ∧ q2.2.1 0 y ≠ 9 ∧ q2.2.1 0 y ≠ 10 ∧ q2.2.1 0 y ≠ 11 := by omega
      obtain ⟨z0, z1, z2, z3, z4, z5, z8, z9, z10, z11⟩ := hk1
      obtain ⟨k, a1, k1, k2, k3, k4⟩ := h
      refine ⟨⟨Nat.le_add_right _ _, hn⟩, fun h => absurd h z0, fun h => absurd h z1, fun h => (h.elim z2 z3).elim, fun h => (h.elim z4 z5).elim, fun h => absurd h z8, fun h => absurd h z9, fun h => absurd h z10, fun h => absurd h z11, fun _ => ?_⟩
      by_cases k0 : k = 0
      · obtain ⟨_, e2, _⟩ := k3 k0
        subst e2
        exact ⟨0, off + (kVb 0).length, by omega, kNu_lt (v := 0) hL hn, fun _ => rfl, fun e => absurd rfl e⟩
      · obtain ⟨f, g, f0, f1, f2, L', e1, h'⟩ := k4 k0
        subst e1
        rw [List.length_append] at hn ⊢
        obtain ⟨e1, s1, s2⟩ := kTi_wz hB hr hp e67 f2 k 0 L' (by omega) h' B' n' _ (kLz_r hL) (by omega)
        rw [← Nat.add_assoc]
        exact ⟨k, off + (kVb (Int64.ofNat k)).length, by omega, kNu_lt (kLz_l hL) (by omega), fun e => absurd e k0, fun _ => ⟨e1, s1, s2⟩⟩
    · rw [if_neg h67] at h
      by_cases h10 : q1.2.1 0 x = 10
      · rw [if_pos h10] at h
        obtain ⟨i, i1, i2, i3⟩ := h
        have e10 := kAi_67 ha (by omega)
        have y6 := (kKi hI hy).2.mp (by omega)
        have hfb := (hcd y y6 hy).1.2.1 (by omega)
        have hpk := kPk_le (q1 := q2) (q2 := q1) (x := y) (y := x) (j := i)
        have fin : ∀ v, v < q2.2.1 4 y → M = kVb (Int64.ofNat v) → kWr q2 B' n' (E + 1) y off (off + M.length) := fun v hv he => by
          subst he
          exact ⟨⟨Nat.le_add_right _ _, hn⟩, by omega, by omega, by omega, by omega, by omega, by omega, fun _ => ⟨v, hv, kNu_lt hL hn⟩, by omega, by omega⟩
        by_cases hk : kPk q2 q1 y x i ≠ 0
        · rw [if_pos hk] at i3
          exact fin _ (by omega) i3.1
        · rw [if_neg hk] at i3
          by_cases h8 : q2.2.1 8 y ≠ 0
          · rw [if_pos h8] at i3
            exact fin _ (by omega) i3.1
          · rw [if_neg h8] at i3
            cases i3.2
      · rw [if_neg h10] at h
        by_cases h11 : q1.2.1 0 x = 11
        · rw [if_pos h11] at h
          obtain ⟨f, f0, f1, f2, h'⟩ := h
          have e11 := kAi_67 ha (by omega)
          have hsq := kTf_wz hI hcd hdz hE hr hy (by omega) f2 _ _ _ (by omega) h' B' n' off hL hn
          have z : q2.2.1 0 y = 11 := by rw [← e11]; exact h11
          rw [h11] at hai
          exact ⟨⟨Nat.le_add_right _ _, hn⟩, fun h => by omega, fun h => by omega, fun h => by omega, fun h => by omega, fun h => by omega, fun h => by omega, fun h => by omega, fun _ => hsq, fun h => by omega⟩
        · rw [if_neg h11] at h
          obtain ⟨hM, _⟩ := h
          subst hM
          rw [kTp_len] at hn ⊢
          have hle := hw.1
          by_cases hlt : q1.2.1 0 x < 6
          · rw [if_pos hlt] at hai
            have m0 : q2.2.1 0 y = 0 → q1.2.1 0 x = 0 := by omega
            have m1 : q2.2.1 0 y = 1 → q1.2.1 0 x = 1 := by omega
            have m2 : q2.2.1 0 y = 2 ∨ q2.2.1 0 y = 3 → q1.2.1 0 x = 2 ∨ q1.2.1 0 x = 3 := by omega
            have m4 : q2.2.1 0 y = 4 ∨ q2.2.1 0 y = 5 → q1.2.1 0 x = 4 ∨ q1.2.1 0 x = 5 := by omega
            have z : q2.2.1 0 y < 6 := by omega
            have g0 := fun h => hw.2.1 (m0 h)
            have g1 := fun h => hw.2.2.1 (m1 h)
            have g2 := fun h => hw.2.2.2.1 (m2 h)
            have g4 := fun h => hw.2.2.2.2.1 (m4 h)
            clear hw
            refine ⟨⟨Nat.le_add_right _ _, hn⟩, fun h => ?_, fun h => ?_, fun h => ?_, fun h => ?_, fun h => ?_, fun h => ?_, fun h => ?_, fun h => ?_, fun h => ?_⟩
            · rw [g0 h]; clear g2 g4; omega
            · rw [g1 h]; clear g2 g4; omega
            · obtain ⟨v, hv⟩ := g2 h
              exact ⟨v, kNu_l2 hB hv hL hn⟩
            · exact kSs2_lt hB (g4 h) hL hn
            · clear g2 g4; omega
            · clear g2 g4; omega
            · clear g2 g4; omega
            · clear g2 g4; omega
            · clear g2 g4; omega
          · rw [if_neg hlt] at hai
            have hk1 := (kKi hI hy).1
            obtain ⟨i1, i2, i3⟩ := hai
            by_cases h9 : q1.2.1 0 x = 9
            · have hs := i2 h9
              have he := hw.2.2.2.2.2.2.1 h9
              clear hw
              exact ⟨⟨Nat.le_add_right _ _, hn⟩, by omega, by omega, by omega, by omega, by omega, fun _ => by omega, by omega, by omega, by omega⟩
            · omega
  · rw [if_neg ha] at h
    cases h.2
theorem kTr_wz (hB : ∀ i, B i < 256) (hI : kIv T m q2) (hcd : kCd q2) (hdz : kDz q2 dW) : ∀ D, kRwz q1 q2 B n D (2 * D + 50) (kTr q1 q2 dW B n D)
  | 0 => fun _ _ _ _ _ _ hw _ => hw.elim
  | D + 1 => fun x y a e M hy hw h => by
    have hr := kTr_wz hB hI hcd hdz D
    rw [show 2 * (D + 1) + 50 = 2 * D + 50 + 2 by omega]
    unfold kTr at h
    by_cases h8 : q1.2.1 0 x = 8
    · rw [if_pos h8] at h
      obtain ⟨i, a1, i1, i2, i3, i4⟩ := h
      exact kWz_mo (j := 2) (hr _ _ _ _ _ hy i3 i4)
    · rw [if_neg h8] at h
      by_cases y8 : q2.2.1 0 y = 8
      · rw [if_pos y8] at h
        by_cases h0 : kBf q1 q2 x y = 0
        · rw [if_pos h0] at h
          cases h.2
        · rw [if_neg h0] at h
          obtain ⟨L', e1, h⟩ := h
          have y6 := (kKi hI hy).2.mp (by omega)
          have hble := kBf_le (q1 := q1) (q2 := q2) (x := x) (y := y)
          have hp := (kPx_lt hI hcd y6 hy (by omega) (by omega) (i := kBf q1 q2 x y - 1) (by omega)).2
          subst e1
          intro B' n' off hL hn
          rw [List.length_append] at hn ⊢
          have := kTn_wz hB hI hcd hdz (by omega) hr hp h8 hw h B' n' _ (kLz_r hL) (by omega)
          rw [← Nat.add_assoc]
          exact ⟨⟨by omega, by omega⟩, by omega, by omega, by omega, by omega, fun _ => ⟨kBf q1 q2 x y - 1, off + (kVb (Int64.ofNat (kBf q1 q2 x y - 1))).length, by omega, kNu_lt (kLz_l hL) (by omega), this⟩, by omega, by omega, by omega, by omega⟩
      · rw [if_neg y8] at h
        exact kWz_mo (j := 1) (kTn_wz hB hI hcd hdz (by omega) hr hy h8 hw h)
end
