/-! PURE: stored data, elsewhere -/
section
variable {q q1 q2 : kP} {dW : Nat → Nat → List Nat} {B B' : Nat → Nat} {n n' off : Nat}
theorem kTp_gd {a k i : Nat} (h : i < k) : (kTp B a k).getD i 0 = B (a + i) := by
  unfold kTp
  rw [List.getD_eq_getElem?_getD, List.getElem?_map, List.getElem?_range h]
  rfl
theorem kTp_sh (hs : ∀ j, j < n → B' (off + j) = B j) {a k : Nat} (h : a + k ≤ n) : kTp B' (off + a) k = kTp B a k := by
  unfold kTp
  apply List.map_congr_left
  intro i hi
  have := List.mem_range.mp hi
  rw [show off + a + i = off + (a + i) by omega]
  exact hs _ (by omega)
theorem kNu_sh (hB : ∀ i, B i < 256) (hs : ∀ j, j < n → B' (off + j) = B j) (hn : off + n ≤ n') {a e : Nat} {v : Int64} (h : kNu B n a v e) : kNu B' n' (off + a) v (off + e) := by
  have hle := kNu_le hB h
  have hlen : (kVb v).length = e - a := by rw [← h.2, kTp_len]
  have := kNu_vb (B := B') (n := n') (a := off + a) (v := v) (by omega) (fun i hi => by
    rw [show off + a + i = off + (a + i) by omega, hs _ (by omega), ← h.2, kTp_gd (by omega)])
  rw [hlen, show off + a + (e - a) = off + e by omega] at this
  exact this
theorem kSs2_sh (hB : ∀ i, B i < 256) (hs : ∀ j, j < n → B' (off + j) = B j) (hn : off + n ≤ n') {a e : Nat} (h : kSs2 B n a e) : kSs2 B' n' (off + a) (off + e) := by
  obtain ⟨v, b, h1, h2, h3, h4⟩ := h
  exact ⟨v, off + b, kNu_sh hB hs hn h1, h2, by omega, by omega⟩
theorem kWq_sh (hB : ∀ i, B i < 256) (hs : ∀ j, j < n → B' (off + j) = B j) (hn : off + n ≤ n') : ∀ D x a e, kWq q B n D x a e → kWq q B' n' D x (off + a) (off + e)
  | 0, _, _, _, h => h.elim
  | D + 1, x, a, e, h => by
    obtain ⟨hle, w0, w1, w2, w4, w8, w9, w10, w11, w6⟩ := h
    refine ⟨⟨by omega, by omega⟩, fun h => by rw [w0 h], fun h => by rw [w1 h]; omega, fun h => ?_, fun h => kSs2_sh hB hs hn (w4 h), fun h => ?_, fun h => by rw [w9 h]; omega, fun h => ?_, fun h => ?_, fun h => ?_⟩
    · obtain ⟨v, hv⟩ := w2 h
      exact ⟨v, kNu_sh hB hs hn hv⟩
    · obtain ⟨i, a1, i1, i2, i3⟩ := w8 h
      exact ⟨i, off + a1, i1, kNu_sh hB hs hn i2, kWq_sh hB hs hn D _ _ _ i3⟩
    · obtain ⟨i, i1, i2⟩ := w10 h
      exact ⟨i, i1, kNu_sh hB hs hn i2⟩
    · obtain ⟨f, f0, f1, f2⟩ := w11 h
      exact ⟨fun i => off + f i, by show off + f 0 = _; rw [f0], by show off + f _ = _; rw [f1], fun i hi => kWq_sh hB hs hn D _ _ _ (f2 i hi)⟩
    · obtain ⟨k, a1, k1, k2, k3, k4⟩ := w6 h
      refine ⟨k, off + a1, k1, kNu_sh hB hs hn k2, fun k0 => by rw [k3 k0], fun k0 => ?_⟩
      obtain ⟨f, g, f0, f1, f2⟩ := k4 k0
      refine ⟨fun i => off + f i, fun i => off + g i, by show off + f 0 = _; rw [f0], kNu_sh hB hs hn f1, fun i hi => ⟨?_, kWq_sh hB hs hn D _ _ _ (f2 i hi).2⟩⟩
      have := (f2 i hi).1
      by_cases h7 : q.2.1 0 x = 7
      · rw [if_pos h7] at this ⊢
        exact kSs2_sh hB hs hn this
      · rw [if_neg h7] at this ⊢
        show off + g i = off + f i
        rw [this]
theorem kTf_sh2 {rec rec' : kTq} {D x y : Nat} {f : Nat → Nat} (hf : ∀ i, i < q1.2.1 4 x → kWq q1 B n D (kPx q1 x i) (f i) (f (i + 1))) (hr : ∀ x y a e L b, kWq q1 B n D x a e → rec x y a e L b → rec' x y (off + a) (off + e) L b) : ∀ k j L b, kTf q1 q2 dW rec x y f k j L b → kTf q1 q2 dW rec' x y (fun i => off + f i) k j L b
  | 0, _, L, b, h => h
  | k + 1, j, L, b, h => by
    unfold kTf at h ⊢
    by_cases h0 : kPk q1 q2 x y j = 0
    · rw [if_pos h0] at h ⊢
      by_cases h3 : q2.2.2 3 y j = 0
      · rw [if_pos h3] at h ⊢
        exact h
      · rw [if_neg h3] at h ⊢
        obtain ⟨L', e, h⟩ := h
        exact ⟨L', e, kTf_sh2 hf hr k _ _ _ h⟩
    · rw [if_neg h0] at h ⊢
      have hk := kPk_le (q1 := q1) (q2 := q2) (x := x) (y := y) (j := j)
      obtain ⟨L1, b1, h1, h2⟩ := h
      refine ⟨L1, b1, hr _ _ _ _ _ _ (hf _ (by omega)) h1, ?_⟩
      cases b1 with
      | true =>
        rw [if_pos rfl] at h2 ⊢
        obtain ⟨L2, e, h2⟩ := h2
        exact ⟨L2, e, kTf_sh2 hf hr k _ _ _ h2⟩
      | false =>
        rw [if_neg (by decide)] at h2 ⊢
        exact h2
theorem kTi_sh {rec rec' : kTq} {D x y c : Nat} {f g : Nat → Nat} (hs : ∀ j, j < n → B' (off + j) = B j) (hf : ∀ i, i < c → kWq q1 B n D (kPx q1 x 0) (g i) (f (i + 1))) (hr : ∀ x y a e L b, kWq q1 B n D x a e → rec x y a e L b → rec' x y (off + a) (off + e) L b) : ∀ k i L b, i + k = c → kTi q1 q2 B rec x y f g k i L b → kTi q1 q2 B' rec' x y (fun i => off + f i) (fun i => off + g i) k i L b
  | 0, _, L, b, _, h => h
  | k + 1, i, L, b, hi, h => by
    unfold kTi at h ⊢
    obtain ⟨L1, b1, h1, h2⟩ := h
    have hw := hf i (by omega)
    have hle := kWq_le hw
    have et : kTp B' (off + f i) ((off + g i) - (off + f i)) = kTp B (f i) (g i - f i) := by
      rw [show (off + g i) - (off + f i) = g i - f i by omega]
      by_cases h : g i ≤ f i
      · rw [show g i - f i = 0 by omega]
        rfl
      · exact kTp_sh hs (by omega)
    refine ⟨L1, b1, hr _ _ _ _ _ _ hw h1, ?_⟩
    cases b1 with
    | true =>
      rw [if_pos rfl] at h2 ⊢
      obtain ⟨L2, e, h2⟩ := h2
      refine ⟨L2, ?_, kTi_sh hs hf hr k (i + 1) _ _ (by omega) h2⟩
      show L = kTp B' (off + f i) ((off + g i) - (off + f i)) ++ _
      rw [et]
      exact e
    | false =>
      rw [if_neg (by decide)] at h2 ⊢
      refine ⟨?_, h2.2⟩
      show L = kTp B' (off + f i) ((off + g i) - (off + f i)) ++ _
      rw [et]
      exact h2.1
theorem kTn_sh (hB : ∀ i, B i < 256) (hs : ∀ j, j < n → B' (off + j) = B j) (hn : off + n ≤ n') {rec rec' : kTq} {D x y a e : Nat} {L : List Nat} {b : Bool} (hr : ∀ x y a e L b, kWq q1 B n D x a e → rec x y a e L b → rec' x y (off + a) (off + e) L b) (hle : a ≤ e ∧ e ≤ n) (h : kTn q1 q2 dW B n D rec x y a e L b) : kTn q1 q2 dW B' n' D rec' x y (off + a) (off + e) L b := by
  unfold kTn at h ⊢
  by_cases ha : kAi q1 q2 x y = true
  · rw [if_pos ha] at h ⊢
    by_cases h67 : q1.2.1 0 x = 6 ∨ q1.2.1 0 x = 7
    · rw [if_pos h67] at h ⊢
      obtain ⟨k, a1, k1, k2, k3, k4⟩ := h
      refine ⟨k, off + a1, k1, kNu_sh hB hs hn k2, fun k0 => by obtain ⟨e1, e2⟩ := k3 k0; exact ⟨by rw [e1], e2⟩, fun k0 => ?_⟩
      obtain ⟨f, g, f0, f1, f2, L', e1, h'⟩ := k4 k0
      refine ⟨fun i => off + f i, fun i => off + g i, by show off + f 0 = _; rw [f0], kNu_sh hB hs hn f1, fun i hi => ⟨?_, kWq_sh hB hs hn D _ _ _ (f2 i hi).2⟩, L', e1, kTi_sh hs (fun i hi => (f2 i hi).2) hr k 0 L' b (by omega) h'⟩
      have := (f2 i hi).1
      by_cases h7 : q1.2.1 0 x = 7
      · rw [if_pos h7] at this ⊢
        exact kSs2_sh hB hs hn this
      · rw [if_neg h7] at this ⊢
        show off + g i = off + f i
        rw [this]
    · rw [if_neg h67] at h ⊢
      by_cases h10 : q1.2.1 0 x = 10
      · rw [if_pos h10] at h ⊢
        obtain ⟨i, i1, i2, i3⟩ := h
        exact ⟨i, i1, kNu_sh hB hs hn i2, i3⟩
      · rw [if_neg h10] at h ⊢
        by_cases h11 : q1.2.1 0 x = 11
        · rw [if_pos h11] at h ⊢
          obtain ⟨f, f0, f1, f2, h'⟩ := h
          exact ⟨fun i => off + f i, by show off + f 0 = _; rw [f0], by show off + f _ = _; rw [f1], fun i hi => kWq_sh hB hs hn D _ _ _ (f2 i hi), kTf_sh2 f2 hr _ _ _ _ h'⟩
        · rw [if_neg h11] at h ⊢
          rw [show off + e - (off + a) = e - a by omega, kTp_sh hs (by omega)]
          exact h
  · rw [if_neg ha] at h ⊢
    exact h
theorem kTr_sh (hB : ∀ i, B i < 256) (hs : ∀ j, j < n → B' (off + j) = B j) (hn : off + n ≤ n') : ∀ D x y a e L b, kWq q1 B n D x a e → kTr q1 q2 dW B n D x y a e L b → kTr q1 q2 dW B' n' D x y (off + a) (off + e) L b
  | 0, _, _, _, _, _, _, hw, _ => hw.elim
  | D + 1, x, y, a, e, L, b, hw, h => by
    have hrec : ∀ x y a e L b, kWq q1 B n D x a e → kTr q1 q2 dW B n D x y a e L b → kTr q1 q2 dW B' n' D x y (off + a) (off + e) L b := kTr_sh hB hs hn D
    unfold kTr at h ⊢
    by_cases h8 : q1.2.1 0 x = 8
    · rw [if_pos h8] at h ⊢
      obtain ⟨i, a1, i1, i2, i3, i4⟩ := h
      exact ⟨i, off + a1, i1, kNu_sh hB hs hn i2, kWq_sh hB hs hn D _ _ _ i3, hrec _ _ _ _ _ _ i3 i4⟩
    · rw [if_neg h8] at h ⊢
      by_cases y8 : q2.2.1 0 y = 8
      · rw [if_pos y8] at h ⊢
        by_cases h0 : kBf q1 q2 x y = 0
        · rw [if_pos h0] at h ⊢
          exact h
        · rw [if_neg h0] at h ⊢
          obtain ⟨L', e1, h⟩ := h
          exact ⟨L', e1, kTn_sh hB hs hn hrec hw.1 h⟩
      · rw [if_neg y8] at h ⊢
        exact kTn_sh hB hs hn hrec hw.1 h
end
