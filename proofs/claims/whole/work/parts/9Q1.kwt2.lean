/-! PURE: a default's letters are a datum -/
/-- letters that are a datum of schema x wherever they stand -/
def kWz (q : kP) (D x : Nat) (M : List Nat) : Prop := ∀ B n off, kLz B off M → off + M.length ≤ n → kWr q B n D x off (off + M.length)
section
variable {T : Nat → Nat → Nat} {N : Nat → Int} {m l n : Nat} {q : kP}
theorem kWz_mo {D x j : Nat} {M : List Nat} (h : kWz q D x M) : kWz q (D + j) x M := fun B n off h1 h2 => kWr_mo j D (h B n off h1 h2)
/-- what is known of the values inside -/
def kWv2 (T : Nat → Nat → Nat) (N : Nat → Int) (m D : Nat) (q : kP) (fit : Nat → Nat → Nat) (W : Nat → Nat → List Nat) (E : Nat) : Prop := ∀ v x, x < q.1 1 → jVd T N m D v → fit v x = 0 → kWz q E x (W v x)
theorem jTl_cn {R : Nat → Nat → Prop} (hR : ∀ a b, R a b → a < b) : ∀ k lo e cur, jTl T R k lo e cur → k + lo ≤ e
  | 0, lo, e, cur, h => by have := jTl_lt hR _ _ _ _ h; omega
  | k + 1, lo, e, cur, h => by
    obtain ⟨hcur, e1, hP, hch⟩ := h
    have h1 := hR _ _ hP
    have h2 := jTl_cn hR k _ _ _ hch
    omega
theorem jTm_cn {R : Nat → Nat → Prop} (hR : ∀ a b, R a b → a < b) : ∀ k lo e cur, jTm T R k lo e cur → k + lo ≤ e
  | 0, lo, e, cur, h => by have := jTm_lt hR _ _ _ _ h; omega
  | k + 1, lo, e, cur, h => by
    obtain ⟨hcur, hk0, hk4, e1, hP, hch⟩ := h
    have h1 := hR _ _ hP
    have h2 := jTm_cn hR k _ _ _ hch
    omega
theorem kSs2_le2 {B : Nat → Nat} {n off k : Nat} {M : List Nat} (hM : M.length = k) (hk : k < 2147483648) (h : kLz B off (kVb (Int64.ofNat k) ++ M)) (hn : off + (kVb (Int64.ofNat k) ++ M).length ≤ n) : kSs2 B n off (off + (kVb (Int64.ofNat k) ++ M).length) := by
  rw [List.length_append] at hn ⊢
  refine ⟨Int64.ofNat k, off + (kVb (Int64.ofNat k)).length, kNu_lt (kLz_l h) (by omega), by rw [ofN_t hk]; omega, ?_, by omega⟩
  rw [ofN_t hk]
  omega
theorem kWtB_wr {D E : Nat} {fit : Nat → Nat → Nat} {W : Nat → Nat → List Nat} (hI : kIv T m q) (hcd : kCd q) (hG : jGt T N m l n) (hm2 : m ≤ 5000) {v y : Nat} (hy : y < q.1 1) (hy8 : q.2.1 0 y ≠ 8) (hb : jVb T N m v) (hf : kFtB T N q fit v y = 0) (hz : 2 ≤ T 0 v ∨ jVd T N m (D + 1) v ∧ kWv2 T N m D q fit W E) : kWz q (E + 1) y (kWtB T N q W v y) := by
  have hlt := jVb_lt hb
  have hin := kFtB_in hf
  have hkk := kKi hI hy
  intro B n off hL hn
  unfold kWtB at hL hn ⊢
  by_cases h0 : q.2.1 0 y = 0
  · rw [if_pos h0] at hL hn ⊢
    exact ⟨⟨Nat.le_add_right _ _, hn⟩, fun _ => rfl, by omega, by omega, by omega, by omega, by omega, by omega, by omega, by omega⟩
  rw [if_neg h0] at hL hn ⊢
  by_cases h1 : q.2.1 0 y = 1
  · rw [if_pos h1] at hL hn ⊢
    exact ⟨⟨Nat.le_add_right _ _, hn⟩, by omega, fun _ => rfl, by omega, by omega, by omega, by omega, by omega, by omega, by omega⟩
  rw [if_neg h1] at hL hn ⊢
  by_cases h2 : q.2.1 0 y = 2 ∨ q.2.1 0 y = 3
  · rw [if_pos h2] at hL hn ⊢
    exact ⟨⟨Nat.le_add_right _ _, hn⟩, by omega, by omega, fun _ => ⟨_, kNu_lt hL hn⟩, by omega, by omega, by omega, by omega, by omega, by omega⟩
  rw [if_neg h2] at hL hn ⊢
  by_cases h4 : q.2.1 0 y = 4 ∨ q.2.1 0 y = 5
  · rw [if_pos h4] at hL hn ⊢
    have ht2 : T 2 v < 2147483648 := by
      have h2 := (kFtB_ok hf (by omega) (by omega) (by omega)).2.1 (by omega)
      have := hG.2.2.2.1 v (by omega) h2
      have := hG.2.1
      omega
    exact ⟨⟨Nat.le_add_right _ _, hn⟩, by omega, by omega, by omega, fun _ => kSs2_le2 kLe_len ht2 hL hn, by omega, by omega, by omega, by omega, by omega⟩
  rw [if_neg h4] at hL hn ⊢
  by_cases h6 : q.2.1 0 y = 6
  · rw [if_pos h6] at hL hn ⊢
    obtain ⟨h1', hfi⟩ := hin.1 h6
    rcases hz with hz | ⟨hvd, hrec⟩
    · omega
    have y6 := hkk.2.mp (by omega)
    have h14 : q.2.1 4 y = 1 := (hcd y y6 hy).1.2.2.1 (.inl h6)
    have hp := (kPx_lt hI hcd y6 hy (by omega) (by omega) (i := 0) (by omega)).2
    have hch := jVd_l hvd h1'
    have hcnt := jTl_cn jVf_lt _ _ _ _ hch
    have hA : ∀ k lo e cur, e ≤ m → jTl T (jVf T N m D) k lo e cur → kFiA T (fun w => fit w (q.2.2 1 y 0 - 1)) k cur = 0 → ∀ i off M, kLz B off (kWtA T (fun w => W w (q.2.2 1 y 0 - 1)) k cur ++ M) → off + (kWtA T (fun w => W w (q.2.2 1 y 0 - 1)) k cur ++ M).length ≤ n → kSeq (fun _ a e => ∃ g, (if q.2.1 0 y = 7 then kSs2 B n a g else g = a) ∧ kWr q B n E (kPx q y 0) g e) k i off (off + (kWtA T (fun w => W w (q.2.2 1 y 0 - 1)) k cur).length) := by
      intro k
      induction k with
      | zero => intro _ _ _ _ _ _ i off M _ _; exact rfl
      | succ k ih =>
        intro lo e cur he h hf i off M hL hn
        obtain ⟨hcur, e1, hP, hch⟩ := h
        subst hcur
        have hf : (if fit lo (q.2.2 1 y 0 - 1) = 0 then kFiA T (fun w => fit w (q.2.2 1 y 0 - 1)) k (T 4 lo) else fit lo (q.2.2 1 y 0 - 1)) = 0 := hf
        have hf0 : fit lo (q.2.2 1 y 0 - 1) = 0 := by
          by_cases h : fit lo (q.2.2 1 y 0 - 1) = 0
          · exact h
          · rw [if_neg h] at hf; exact hf
        rw [if_pos hf0] at hf
        have ek : kWtA T (fun w => W w (q.2.2 1 y 0 - 1)) (k + 1) (lo + 1) = W lo (q.2.2 1 y 0 - 1) ++ kWtA T (fun w => W w (q.2.2 1 y 0 - 1)) k (T 4 lo) := rfl
        rw [ek, List.append_assoc] at hL hn
        rw [ek]
        rw [List.length_append] at hn
        refine ⟨off + (W lo (q.2.2 1 y 0 - 1)).length, ⟨off, by rw [if_neg (by omega)], hrec _ _ hp hP.1 hf0 B n off (kLz_l hL) (by show off + (W lo (q.2.2 1 y 0 - 1)).length ≤ n; omega)⟩, ?_⟩
        have := ih e1 e _ he hch hf (i + 1) (off + (W lo (q.2.2 1 y 0 - 1)).length) M (kLz_r hL) (by omega)
        rw [List.length_append, ← Nat.add_assoc]
        exact this
    by_cases hk0 : T 2 v = 0
    · rw [if_pos hk0] at hL hn ⊢
      rw [hk0] at hL hn ⊢
      refine ⟨⟨Nat.le_add_right _ _, hn⟩, by omega, by omega, by omega, by omega, by omega, by omega, by omega, by omega, fun _ => ⟨0, off + (kVb 0).length, by omega, kNu_lt (v := 0) hL hn, fun _ => rfl, fun e => absurd rfl e⟩⟩
    · rw [if_neg hk0] at hL hn ⊢
      rw [List.length_append] at hn
      have hL2 := kLz_r hL
      have hn2 := hn
      rw [List.length_append] at hn2
      refine ⟨⟨Nat.le_add_right _ _, by rw [List.length_append]; omega⟩, by omega, by omega, by omega, by omega, by omega, by omega, by omega, by omega, fun _ => ⟨T 2 v, off + (kVb (Int64.ofNat (T 2 v))).length, by omega, kNu_lt (kLz_l hL) (by omega), fun e => absurd e hk0, fun _ => ⟨off + (kVb (Int64.ofNat (T 2 v))).length + (kWtA T (fun w => W w (q.2.2 1 y 0 - 1)) (T 2 v) (T 3 v)).length, hA _ _ _ _ hlt.2 hch hfi 0 _ (kVb 0) hL2 (by rw [List.length_append]; omega), ?_⟩⟩⟩
      have := kNu_lt (n := n) (v := 0) (kLz_r hL2) (by omega)
      rw [List.length_append, List.length_append, ← Nat.add_assoc, ← Nat.add_assoc]
      exact this
  rw [if_neg h6] at hL hn ⊢
  by_cases h7 : q.2.1 0 y = 7
  · rw [if_pos h7] at hL hn ⊢
    obtain ⟨h1', hfi⟩ := hin.2.1 h7
    rcases hz with hz | ⟨hvd, hrec⟩
    · omega
    have y6 := hkk.2.mp (by omega)
    have h14 : q.2.1 4 y = 1 := (hcd y y6 hy).1.2.2.1 (.inr h7)
    have hp := (kPx_lt hI hcd y6 hy (by omega) (by omega) (i := 0) (by omega)).2
    obtain ⟨k, hk, hch⟩ := jVd_o hvd h1'
    have hcnt := jTm_cn jVf_lt _ _ _ _ hch
    have hA : ∀ k lo e cur, e ≤ m → jTm T (jVf T N m D) k lo e cur → kFiM T (fun w => fit w (q.2.2 1 y 0 - 1)) k cur = 0 → ∀ i off M, kLz B off (kWtM T (fun w => W w (q.2.2 1 y 0 - 1)) k cur ++ M) → off + (kWtM T (fun w => W w (q.2.2 1 y 0 - 1)) k cur ++ M).length ≤ n → kSeq (fun _ a e => ∃ g, (if q.2.1 0 y = 7 then kSs2 B n a g else g = a) ∧ kWr q B n E (kPx q y 0) g e) k i off (off + (kWtM T (fun w => W w (q.2.2 1 y 0 - 1)) k cur).length) := by
      intro k
      induction k with
      | zero => intro _ _ _ _ _ _ i off M _ _; exact rfl
      | succ k ih =>
        intro lo e cur he h hf i off M hL hn
        obtain ⟨hcur, hk0, hk4, e1, hP, hch⟩ := h
        subst hcur
        have hlt2 := jVd_lt hP.1
        rw [← hP.2] at hlt2
        have hle := jTm_lt jVf_lt _ _ _ _ hch
        have hf : (if fit (T 4 lo - 1) (q.2.2 1 y 0 - 1) = 0 then kFiM T (fun w => fit w (q.2.2 1 y 0 - 1)) k (T 4 (T 4 lo - 1)) else fit (T 4 lo - 1) (q.2.2 1 y 0 - 1)) = 0 := hf
        rw [hk4, show lo + 2 - 1 = lo + 1 from rfl] at hf
        have hf0 : fit (lo + 1) (q.2.2 1 y 0 - 1) = 0 := by
          by_cases h : fit (lo + 1) (q.2.2 1 y 0 - 1) = 0
          · exact h
          · rw [if_neg h] at hf; exact hf
        rw [if_pos hf0] at hf
        have ek : kWtM T (fun w => W w (q.2.2 1 y 0 - 1)) (k + 1) (lo + 1) = (kVb (Int64.ofNat (T 2 lo)) ++ kLe T lo) ++ (W (lo + 1) (q.2.2 1 y 0 - 1) ++ kWtM T (fun w => W w (q.2.2 1 y 0 - 1)) k (T 4 (lo + 1))) := by
          show (kVb (Int64.ofNat (T 2 lo)) ++ kLe T lo) ++ (W (T 4 lo - 1) (q.2.2 1 y 0 - 1) ++ kWtM T (fun w => W w (q.2.2 1 y 0 - 1)) k (T 4 (T 4 lo - 1))) = _
          rw [hk4, show lo + 2 - 1 = lo + 1 from rfl]
        have ht2 : T 2 lo < 2147483648 := by
          have := hG.2.2.2.1 lo (by omega) hk0
          have := hG.2.1
          omega
        have hss : ∀ o, kLz B o (kVb (Int64.ofNat (T 2 lo)) ++ kLe T lo) → o + (kVb (Int64.ofNat (T 2 lo)) ++ kLe T lo).length ≤ n → kSs2 B n o (o + (kVb (Int64.ofNat (T 2 lo)) ++ kLe T lo).length) := fun o h1 h2 => kSs2_le2 kLe_len ht2 h1 h2
        generalize kVb (Int64.ofNat (T 2 lo)) ++ kLe T lo = K at *
        rw [ek, List.append_assoc, List.append_assoc] at hL hn
        rw [ek]
        have hL1 := kLz_l hL
        have hL2 := kLz_r hL
        have hL3 := kLz_l hL2
        have hL4 := kLz_r hL2
        rw [List.length_append, List.length_append] at hn
        refine ⟨off + K.length + (W (lo + 1) (q.2.2 1 y 0 - 1)).length, ⟨off + K.length, by rw [if_pos h7]; exact hss off hL1 (by omega), hrec _ _ hp hP.1 hf0 B n _ hL3 (by show off + K.length + (W (lo + 1) (q.2.2 1 y 0 - 1)).length ≤ n; omega)⟩, ?_⟩
        have := ih e1 e _ he hch hf (i + 1) (off + K.length + (W (lo + 1) (q.2.2 1 y 0 - 1)).length) M hL4 (by omega)
        rw [List.length_append, List.length_append, ← Nat.add_assoc, ← Nat.add_assoc]
        exact this
    have hk2 : T 2 v / 2 = k := by omega
    rw [hk2] at hfi hL hn ⊢
    by_cases hk0 : k = 0
    · rw [if_pos hk0] at hL hn ⊢
      rw [hk0] at hL hn ⊢
      refine ⟨⟨Nat.le_add_right _ _, hn⟩, by omega, by omega, by omega, by omega, by omega, by omega, by omega, by omega, fun _ => ⟨0, off + (kVb 0).length, by omega, kNu_lt (v := 0) hL hn, fun _ => rfl, fun e => absurd rfl e⟩⟩
    · rw [if_neg hk0] at hL hn ⊢
      rw [List.length_append] at hn
      have hL2 := kLz_r hL
      have hn2 := hn
      rw [List.length_append] at hn2
      refine ⟨⟨Nat.le_add_right _ _, by rw [List.length_append]; omega⟩, by omega, by omega, by omega, by omega, by omega, by omega, by omega, by omega, fun _ => ⟨k, off + (kVb (Int64.ofNat k)).length, by omega, kNu_lt (kLz_l hL) (by omega), fun e => absurd e hk0, fun _ => ⟨off + (kVb (Int64.ofNat k)).length + (kWtM T (fun w => W w (q.2.2 1 y 0 - 1)) k (T 3 v)).length, hA _ _ _ _ hlt.2 hch hfi 0 _ (kVb 0) hL2 (by rw [List.length_append]; omega), ?_⟩⟩⟩
      have := kNu_lt (n := n) (v := 0) (kLz_r hL2) (by omega)
      rw [List.length_append, List.length_append, ← Nat.add_assoc, ← Nat.add_assoc]
      exact this
  rw [if_neg h7] at hL hn ⊢
  by_cases h9 : q.2.1 0 y = 9
  · rw [if_pos h9] at hL hn ⊢
    have h8 := (kFtB_ok hf (by omega) (by omega) (by omega)).2.2.1 h9
    refine ⟨⟨Nat.le_add_right _ _, hn⟩, by omega, by omega, by omega, by omega, by omega, fun _ => ?_, by omega, by omega, by omega⟩
    rw [kLe_len]
    omega
  rw [if_neg h9] at hL hn ⊢
  by_cases h10 : q.2.1 0 y = 10
  · rw [if_pos h10] at hL hn ⊢
    have h8 := (kFtB_ok hf (by omega) (by omega) (by omega)).2.2.2 h10
    have hle := (kFr_1 _ _ h8).2.1
    have hle : kPt T q y (q.2.1 4 y) v ≤ 0 + q.2.1 4 y := hle
    exact ⟨⟨Nat.le_add_right _ _, hn⟩, by omega, by omega, by omega, by omega, by omega, by omega, fun _ => ⟨_, by omega, kNu_lt hL hn⟩, by omega, by omega⟩
  rw [if_neg h10] at hL hn ⊢
  have h11 : q.2.1 0 y = 11 := by
    have := hkk.1
    omega
  obtain ⟨h1', hfi⟩ := hin.2.2 h11
  rcases hz with hz | ⟨hvd, hrec⟩
  · omega
  have y6 := hkk.2.mp (by omega)
  have hA : ∀ k i, i + k ≤ q.2.1 4 y → kFiF T q fit v y k i = 0 → ∀ off, kLz B off (kWtF T q W v y k i) → off + (kWtF T q W v y k i).length ≤ n → kSeq (fun i a e => kWr q B n E (kPx q y i) a e) k i off (off + (kWtF T q W v y k i).length) := by
    intro k
    induction k with
    | zero => intro _ _ _ off _ _; exact rfl
    | succ k ih =>
      intro i hi hf off hL hn
      have hf : (if kMl T v (q.2.2 2 y i - 1) = 0 then v + 1 else if fit (kMl T v (q.2.2 2 y i - 1) - 1) (q.2.2 1 y i - 1) = 0 then kFiF T q fit v y k (i + 1) else fit (kMl T v (q.2.2 2 y i - 1) - 1) (q.2.2 1 y i - 1)) = 0 := hf
      have ek : kWtF T q W v y (k + 1) i = (if kMl T v (q.2.2 2 y i - 1) = 0 then [] else W (kMl T v (q.2.2 2 y i - 1) - 1) (q.2.2 1 y i - 1)) ++ kWtF T q W v y k (i + 1) := rfl
      rw [ek] at hL hn ⊢
      have hmd : kMl T v (q.2.2 2 y i - 1) ≠ 0 → jVd T N m D (kMl T v (q.2.2 2 y i - 1) - 1) := fun h => kMv_d hvd h1' h
      have hp := (kPx_lt hI hcd y6 hy (by omega) (by omega) (i := i) (by omega)).2
      generalize kMl T v (q.2.2 2 y i - 1) = w at *
      by_cases w0 : w = 0
      · rw [if_pos w0] at hf; omega
      · rw [if_neg w0] at hf hL hn ⊢
        have hf0 : fit (w - 1) (q.2.2 1 y i - 1) = 0 := by
          by_cases h : fit (w - 1) (q.2.2 1 y i - 1) = 0
          · exact h
          · rw [if_neg h] at hf; exact hf
        rw [if_pos hf0] at hf
        rw [List.length_append] at hn
        refine ⟨off + (W (w - 1) (q.2.2 1 y i - 1)).length, hrec _ _ hp (hmd w0) hf0 B n off (kLz_l hL) (by show off + (W (w - 1) (q.2.2 1 y i - 1)).length ≤ n; omega), ?_⟩
        have := ih (i + 1) (by omega) hf (off + (W (w - 1) (q.2.2 1 y i - 1)).length) (kLz_r hL) (by omega)
        rw [List.length_append, ← Nat.add_assoc]
        exact this
  exact ⟨⟨Nat.le_add_right _ _, hn⟩, by omega, by omega, by omega, by omega, by omega, by omega, by omega, fun _ => hA _ _ (by omega) hfi off hL hn, by omega⟩
theorem kFb_lt (hI : kIv T m q) (hcd : kCd q) {x : Nat} (hx : x < q.1 1) : kFb q x < q.1 1 ∧ q.2.1 0 (kFb q x) ≠ 8 := by
  unfold kFb
  by_cases h : q.2.1 0 x = 8
  · rw [if_pos h]
    have h6 := (kKi hI hx).2.mp (by omega)
    obtain ⟨c1, c2⟩ := (hcd x h6 hx).1.2.2.2.1 h
    exact ⟨(kPx_lt hI hcd h6 hx (by omega) (by omega) (i := 0) c1).2, c2 0 c1⟩
  · rw [if_neg h]
    exact ⟨hx, h⟩
theorem kWt_up (hI : kIv T m q) (hcd : kCd q) {x E : Nat} (hx : x < q.1 1) {M : List Nat} (h : kWz q (E + 1) (kFb q x) M) : kWz q (E + 2) x ((if q.2.1 0 x = 8 then kVb 0 else []) ++ M) := by
  by_cases h8 : q.2.1 0 x = 8
  · rw [if_pos h8]
    intro B n off hL hn
    rw [List.length_append] at hn ⊢
    have h6 := (kKi hI hx).2.mp (by omega)
    obtain ⟨c1, c2⟩ := (hcd x h6 hx).1.2.2.2.1 h8
    have e : kFb q x = kPx q x 0 := by unfold kFb; rw [if_pos h8]
    have := h B n (off + (kVb 0).length) (kLz_r hL) (by omega)
    rw [e] at this
    rw [← Nat.add_assoc]
    exact ⟨⟨by omega, by omega⟩, by omega, by omega, by omega, by omega, fun _ => ⟨0, off + (kVb 0).length, c1, kNu_lt (v := 0) (kLz_l hL) (by omega), this⟩, by omega, by omega, by omega, by omega⟩
  · rw [if_neg h8, List.nil_append]
    have e : kFb q x = x := by unfold kFb; rw [if_neg h8]
    rw [e] at h
    exact kWz_mo (j := 1) h
theorem kWt_wr (hI : kIv T m q) (hcd : kCd q) (hG : jGt T N m l n) : ∀ D, D ≤ 24 → kWv2 T N m D q (kFit T N q D) (kWt T N q D) (2 * D + 2) := by
  have hm := hG.1
  intro D
  induction D with
  | zero =>
    intro _ v x hx hv hf
    obtain ⟨b1, b2⟩ := kFb_lt hI hcd hx
    exact kWt_up hI hcd hx (kWtB_wr (D := 0) (E := 0) (fit := fun _ _ => 0) hI hcd hG (by omega) b1 b2 (jVd_b (by omega) hv) hf (.inl (jVd_0 hv)))
  | succ D ih =>
    intro hD v x hx hv hf
    obtain ⟨b1, b2⟩ := kFb_lt hI hcd hx
    have := kWt_up hI hcd hx (kWtB_wr (D := D) (E := 2 * D + 2) (fit := kFit T N q D) hI hcd hG (by omega) b1 b2 (jVd_b hD hv) hf (.inr ⟨hv, ih (by omega)⟩))
    rw [show 2 * (D + 1) + 2 = 2 * D + 2 + 2 by omega]
    exact this
end
