/-! PURE: what is told is bytes; where a row lies -/
section
variable {q1 q2 : kP} {dW : Nat → Nat → List Nat} {B : Nat → Nat} {n : Nat} {T : Nat → Nat → Nat} {m : Nat}
def kRbt (q2 : kP) (rec : kTq) : Prop := ∀ x y a e L b, y < q2.1 1 → rec x y a e L b → kBt L
theorem kTf_bt (hI : kIv T m q2) (hcd : kCd q2) (hdx : kDx q2 dW) {rec : kTq} (hr : kRbt q2 rec) {x y : Nat} (hy : y < q2.1 1) (y11 : q2.2.1 0 y = 11) {f : Nat → Nat} : ∀ k j L b, j + k = q2.2.1 4 y → kTf q1 q2 dW rec x y f k j L b → kBt L
  | 0, _, L, b, _, h => by rw [h.1]; exact kBt_n
  | k + 1, j, L, b, hj, h => by
    have y6 := (kKi hI hy).2.mp (by omega)
    unfold kTf at h
    by_cases h0 : kPk q1 q2 x y j = 0
    · rw [if_pos h0] at h
      by_cases h3 : q2.2.2 3 y j = 0
      · rw [if_pos h3] at h
        rw [h.1]
        exact kBt_n
      · rw [if_neg h3] at h
        obtain ⟨L', e, h⟩ := h
        rw [e]
        exact kBt_a (hdx y j hy y11 (by omega) h3).1 (kTf_bt hI hcd hdx hr hy y11 k _ _ _ (by omega) h)
    · rw [if_neg h0] at h
      obtain ⟨L1, b1, h1, h2⟩ := h
      have hp := (kPx_lt hI hcd y6 hy (by omega) (by omega) (i := j) (by omega)).2
      have hb1 := hr _ _ _ _ _ _ hp h1
      cases b1 with
      | true =>
        rw [if_pos rfl] at h2
        obtain ⟨L2, e, h2⟩ := h2
        rw [e]
        exact kBt_a hb1 (kTf_bt hI hcd hdx hr hy y11 k _ _ _ (by omega) h2)
      | false =>
        rw [if_neg (by decide)] at h2
        rw [h2.1]
        exact hb1
theorem kTi_bt (hB : ∀ i, B i < 256) {rec : kTq} (hr : kRbt q2 rec) {x y : Nat} (hy : kPx q2 y 0 < q2.1 1) {f g : Nat → Nat} : ∀ k i L b, kTi q1 q2 B rec x y f g k i L b → kBt L
  | 0, _, L, b, h => by rw [h.1]; exact kBt_1 (by omega)
  | k + 1, i, L, b, h => by
    unfold kTi at h
    obtain ⟨L1, b1, h1, h2⟩ := h
    have hb1 := hr _ _ _ _ _ _ hy h1
    cases b1 with
    | true =>
      rw [if_pos rfl] at h2
      obtain ⟨L2, e, h2⟩ := h2
      rw [e]
      exact kBt_a (kBt_tp hB) (kBt_a hb1 (kTi_bt hB hr hy k _ _ _ h2))
    | false =>
      rw [if_neg (by decide)] at h2
      rw [h2.1]
      exact kBt_a (kBt_tp hB) hb1
theorem kTn_bt (hB : ∀ i, B i < 256) (hI : kIv T m q2) (hcd : kCd q2) (hdx : kDx q2 dW) {rec : kTq} (hr : kRbt q2 rec) {D x y a e : Nat} {L : List Nat} {b : Bool} (hy : y < q2.1 1) (h : kTn q1 q2 dW B n D rec x y a e L b) : kBt L := by
  unfold kTn at h
  by_cases ha : kAi q1 q2 x y = true
  · rw [if_pos ha] at h
    by_cases h67 : q1.2.1 0 x = 6 ∨ q1.2.1 0 x = 7
    · rw [if_pos h67] at h
      have e67 := kAi_67 ha (by omega)
      have y6 := (kKi hI hy).2.mp (by omega)
      have hN := (hcd y y6 hy).1
      have h14 : q2.2.1 4 y = 1 := hN.2.2.1 (by rw [← e67]; exact h67)
      have hp := (kPx_lt hI hcd y6 hy (by omega) (by omega) (i := 0) (by omega)).2
      obtain ⟨k, a1, k1, k2, k3, k4⟩ := h
      by_cases k0 : k = 0
      · rw [(k3 k0).2.1]
        exact kBt_1 (by omega)
      · obtain ⟨f, g, f0, f1, f2, L', e1, h'⟩ := k4 k0
        rw [e1]
        exact kBt_a (kBt_vb _) (kTi_bt hB hr hp k 0 L' b h')
    · rw [if_neg h67] at h
      by_cases h10 : q1.2.1 0 x = 10
      · rw [if_pos h10] at h
        obtain ⟨i, i1, i2, i3⟩ := h
        split at i3
        · rw [i3.1]; exact kBt_vb _
        · split at i3
          · rw [i3.1]; exact kBt_vb _
          · rw [i3.1]; exact kBt_n
      · rw [if_neg h10] at h
        by_cases h11 : q1.2.1 0 x = 11
        · rw [if_pos h11] at h
          obtain ⟨f, f0, f1, f2, h'⟩ := h
          exact kTf_bt hI hcd hdx hr hy (by rw [← kAi_67 ha (by omega)]; exact h11) _ _ _ _ (by omega) h'
        · rw [if_neg h11] at h
          rw [h.1]
          exact kBt_tp hB
  · rw [if_neg ha] at h
    rw [h.1]
    exact kBt_n
theorem kTr_bt (hB : ∀ i, B i < 256) (hI : kIv T m q2) (hcd : kCd q2) (hdx : kDx q2 dW) : ∀ D, kRbt q2 (kTr q1 q2 dW B n D)
  | 0 => fun _ _ _ _ _ _ _ h => h.elim
  | D + 1 => fun x y a e L b hy h => by
    have hr := kTr_bt hB hI hcd hdx D
    unfold kTr at h
    by_cases h8 : q1.2.1 0 x = 8
    · rw [if_pos h8] at h
      obtain ⟨i, a1, i1, i2, i3, i4⟩ := h
      exact hr _ _ _ _ _ _ hy i4
    · rw [if_neg h8] at h
      by_cases y8 : q2.2.1 0 y = 8
      · rw [if_pos y8] at h
        by_cases h0 : kBf q1 q2 x y = 0
        · rw [if_pos h0] at h
          rw [h.1]
          exact kBt_n
        · rw [if_neg h0] at h
          obtain ⟨L', e1, h⟩ := h
          have y6 := (kKi hI hy).2.mp (by omega)
          have hble := kBf_le (q1 := q1) (q2 := q2) (x := x) (y := y)
          have hp := (kPx_lt hI hcd y6 hy (by omega) (by omega) (i := kBf q1 q2 x y - 1) (by omega)).2
          rw [e1]
          exact kBt_a (kBt_vb _) (kTn_bt hB hI hcd hdx hr hp h)
      · rw [if_neg y8] at h
        exact kTn_bt hB hI hcd hdx hr hy h
end
theorem kFr_ml {t : Nat → Bool} : ∀ n lo, kFr t n lo ≠ 0 → ∀ i, lo ≤ i → i < kFr t n lo - 1 → t i = false
  | 0, lo, h, i, _, _ => absurd rfl h
  | n + 1, lo, h, i, h1, h2 => by
    have e : kFr t (n + 1) lo = if t lo then lo + 1 else kFr t n (lo + 1) := rfl
    by_cases ht : t lo = true
    · rw [e, if_pos ht] at h2
      omega
    · rw [e, if_neg ht] at h h2
      by_cases hi : i = lo
      · rw [hi]
        simpa using ht
      · exact kFr_ml n (lo + 1) h i (by omega) h2
theorem kFr_m {t : Nat → Bool} {n lo : Nat} (h : kFr t n lo ≠ 0) : ∀ i, lo ≤ i → i < kFr t n lo - 1 → t i = false := kFr_ml n lo h
theorem yRs_mo {L : List yFi} (x : Nat) : ∀ k n, yRs L x n ≤ yRs L x (n + k)
  | 0, n => Nat.le_refl _
  | k + 1, n => by
    have ih := yRs_mo (L := L) x k n
    have e : yRs L x (n + (k + 1)) = yRs L x (n + k) + (if yIs (L.getD (n + k) yF0) x then (L.getD (n + k) yF0).2.2.2.2.1 - 1 else 0) := rfl
    omega
/-- places of rows -/
def yRg (C : List Nat) (q : kP) (x k : Nat) (g : Nat → Nat) : Prop := g 0 = 0 ∧ g k = C.length ∧ ∀ i, i < k → kWq q (yB C) C.length 32 x (g i) (g (i + 1))
theorem yRw_g {C : List Nat} {q : kP} {x k : Nat} (h : yRw C q x k) : ∃ g, yRg C q x k g := by
  obtain ⟨_, g, h1, h2, h3⟩ := h
  refine ⟨g, h1, h2, fun i hi => ?_⟩
  have := h3 i hi (yB C) C.length 0 (fun j hj => by rw [Nat.zero_add]; rfl) (by omega)
  rw [Nat.zero_add, Nat.zero_add] at this
  exact this
section
variable {L : List yFi}
/-- a file of rows, and its version -/
theorem yRow (hL : yLw L) {i n : Nat} (hi : i < L.length) (h : yIs (L.getD i yF0) n) : yVf L n (L.getD i yF0).2.1 ≠ 0 ∧ kBt (L.getD i yF0).2.2.2.2.2 ∧ (L.getD i yF0).2.2.2.1 = yWa ((L.getD i yF0).2.2.2.2.1 - 1) (L.getD i yF0).2.2.2.2.2.length ∧ yRw (L.getD i yF0).2.2.2.2.2 (yQ (yVd L n (L.getD i yF0).2.1)) (yX (yVd L n (L.getD i yF0).2.1)) ((L.getD i yF0).2.2.2.2.1 - 1) := by
  obtain ⟨h1, h2, j, j1, j2, j3, j4⟩ := hL.2.2.2 i hi h.2
  rw [h.1] at j2
  have hjl : j < L.length := by omega
  have hv := (hL.2.2.1 j hjl j2.2).2.2
  rw [j2.1] at hv
  have e1 : yVc L n (j + 1) = yVc L n j + (if yIv (L.getD j yF0) n then 1 else 0) := rfl
  rw [if_pos j2] at e1
  have hm := yVc_mo (L := L) n (L.length - (j + 1)) (j + 1)
  rw [show j + 1 + (L.length - (j + 1)) = L.length by omega] at hm
  have hvf : yVf L n (L.getD i yF0).2.1 ≠ 0 := (yVf_iff hL).1.mpr (by rw [← j3, hv]; omega)
  obtain ⟨a1, a2, a3⟩ := (yVf_iff hL).2 hvf
  have hv2 := (hL.2.2.1 _ a1 a2.2).2.2
  rw [a2.1] at hv2
  have ej : yVf L n (L.getD i yF0).2.1 - 1 = j := yVc_un a2 j2 (by rw [← hv2, ← hv, a3, j3])
  refine ⟨hvf, h1, h2, ?_⟩
  show yRw _ (yQ (L.getD (yVf L n (L.getD i yF0).2.1 - 1) yF0).2.2.2.2.2) (yX (L.getD (yVf L n (L.getD i yF0).2.1 - 1) yF0).2.2.2.2.2) _
  rw [ej]
  exact j4
/-- the file of a row -/
theorem yFo_at {n i : Nat} (h : yFo L n i ≠ 0) : yFo L n i - 1 < L.length ∧ yIs (L.getD (yFo L n i - 1) yF0) n ∧ yRs L n (yFo L n i - 1) ≤ i ∧ i < yRs L n (yFo L n i - 1 + 1) := by
  have h1 := kFr_1 _ _ h
  have h2 : yIs (L.getD (yFo L n i - 1) yF0) n ∧ i < yRs L n (yFo L n i - 1 + 1) := of_decide_eq_true h1.2.2
  have hmin : ∀ j, 0 ≤ j → j < yFo L n i - 1 → decide (yIs (L.getD j yF0) n ∧ i < yRs L n (j + 1)) = false := kFr_m h
  have hle : ∀ j, j ≤ yFo L n i - 1 → yRs L n j ≤ i := by
    intro j
    induction j with
    | zero => intro _; exact Nat.zero_le _
    | succ j ih =>
      intro hj
      have ihh := ih (by omega)
      have hm := of_decide_eq_false (hmin j (by omega) (by omega))
      have e : yRs L n (j + 1) = yRs L n j + (if yIs (L.getD j yF0) n then (L.getD j yF0).2.2.2.2.1 - 1 else 0) := rfl
      by_cases hs : yIs (L.getD j yF0) n
      · have : ¬ i < yRs L n (j + 1) := fun e => hm ⟨hs, e⟩
        omega
      · rw [if_neg hs] at e
        omega
  refine ⟨?_, h2.1, hle _ (Nat.le_refl _), h2.2⟩
  have := h1.2.1
  unfold yFo at h ⊢
  omega
theorem yFo_0 {n i : Nat} : yFo L n i ≠ 0 ↔ i < yRs L n L.length := by
  constructor
  · intro h
    obtain ⟨a, _, _, b⟩ := yFo_at h
    have := yRs_mo (L := L) n (L.length - (yFo L n i - 1 + 1)) (yFo L n i - 1 + 1)
    rw [show yFo L n i - 1 + 1 + (L.length - (yFo L n i - 1 + 1)) = L.length by omega] at this
    omega
  · intro h h0
    have hz := (kFr_0 _ _).mp h0
    have : ∀ j, j ≤ L.length → yRs L n j ≤ i := by
      intro j
      induction j with
      | zero => intro _; exact Nat.zero_le _
      | succ j ih =>
        intro hj
        have ihh := ih (by omega)
        have hm := of_decide_eq_false (hz j (by omega) (by omega))
        have e : yRs L n (j + 1) = yRs L n j + (if yIs (L.getD j yF0) n then (L.getD j yF0).2.2.2.2.1 - 1 else 0) := rfl
        by_cases hs : yIs (L.getD j yF0) n
        · have : ¬ i < yRs L n (j + 1) := fun e => hm ⟨hs, e⟩
          omega
        · rw [if_neg hs] at e
          omega
    have := this L.length (Nat.le_refl _)
    omega
end
