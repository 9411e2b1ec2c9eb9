/-! PURE: what the reading of a schema keeps -/
theorem kU_ite {α : Type} (f : Nat → α) (k : Nat) (v : α) (j : Nat) : kU f k v j = if j = k then v else f j := rfl
theorem kC_1 (q : kP) (k v j : Nat) : (kC q k v).1 j = if j = k then v else q.1 j := rfl
theorem kC_Q (q : kP) (k v : Nat) : (kC q k v).2 = q.2 := rfl
theorem kQ_1 (q : kP) (r i v : Nat) : (kQ q r i v).1 = q.1 := rfl
theorem kQ_Q (q : kP) (r i v r' i' : Nat) : (kQ q r i v).2.1 r' i' = if r' = r ∧ i' = i then v else q.2.1 r' i' := a2_ite _ _ _ _ _ _
theorem kQ_X (q : kP) (r i v : Nat) : (kQ q r i v).2.2 = q.2.2 := rfl
theorem kX_1 (q : kP) (r s i v : Nat) : (kX q r s i v).1 = q.1 := rfl
theorem kX_Q (q : kP) (r s i v : Nat) : (kX q r s i v).2.1 = q.2.1 := rfl
theorem kX_X (q : kP) (r s i v r' s' i' : Nat) : (kX q r s i v).2.2 r' s' i' = if r' = r ∧ s' = s ∧ i' = i then v else q.2.2 r' s' i' := rfl
/-- a name's letters stand in the pool -/
def kPo (T : Nat → Nat → Nat) (q : kP) (a x : Nat) : Prop := a + 1 + T 2 x ≤ q.1 6 ∧ q.2.1 40 a = T 2 x ∧ ∀ i, i < T 2 x → q.2.1 40 (a + 1 + i) = T 6 (T 5 x + i)
def kIs (T : Nat → Nat → Nat) (m : Nat) (q : kP) (s : Nat) : Prop := (6 ≤ q.2.1 0 s ∧ q.2.1 0 s ≤ 11) ∧ (q.2.1 0 s ≤ 8 ∧ q.2.1 1 s = 0 ∨ 9 ≤ q.2.1 0 s ∧ 0 < q.2.1 1 s ∧ q.2.1 1 s ≤ m ∧ kNam T (q.2.1 1 s - 1) = true ∧ kPo T q (q.2.1 9 s) (q.2.1 1 s - 1)) ∧ (q.2.1 13 s = if q.2.1 4 s = 0 then 0 else q.2.2 0 s 0 + 1) ∧ q.2.1 6 s + q.2.1 7 s ≤ q.1 3 ∧ (q.2.1 0 s = 6 ∨ q.2.1 0 s = 7 → q.2.1 4 s ≤ 1 ∧ q.2.1 7 s = 0 ∧ q.2.1 18 s = if q.2.1 4 s = 0 then 0 else q.2.2 1 s 0) ∧ (q.2.1 0 s = 8 ∨ 9 ≤ q.2.1 0 s → q.2.1 4 s ≤ q.2.1 7 s) ∧ q.2.1 8 s ≤ 65 ∧ q.2.1 7 s ≤ 32
def kIi (T : Nat → Nat → Nat) (m : Nat) (q : kP) (s i : Nat) : Prop := (q.2.2 0 s i < q.1 2 ∧ q.2.1 24 (q.2.2 0 s i) = s ∧ q.2.1 25 (q.2.2 0 s i) = i) ∧ (q.2.1 20 (q.2.2 0 s i) = q.2.2 1 s i ∧ q.2.1 21 (q.2.2 0 s i) = q.2.2 2 s i ∧ q.2.1 22 (q.2.2 0 s i) = q.2.2 3 s i) ∧ (q.2.1 23 (q.2.2 0 s i) = if i + 1 < q.2.1 4 s then q.2.2 0 s (i + 1) + 1 else 0) ∧ q.2.2 1 s i ≤ q.1 1 ∧ q.2.2 3 s i ≤ m ∧ (q.2.1 0 s ≤ 9 ∧ q.2.2 2 s i = 0 ∨ 10 ≤ q.2.1 0 s ∧ 0 < q.2.2 2 s i ∧ q.2.2 2 s i ≤ m ∧ kNam T (q.2.2 2 s i - 1) = true ∧ kPo T q (q.2.2 4 s i) (q.2.2 2 s i - 1))
def kIj (q : kP) (s i : Nat) : Prop := (q.2.1 34 (q.2.1 6 s + i) = s ∧ q.2.1 35 (q.2.1 6 s + i) = i) ∧ (q.2.1 30 (q.2.1 6 s + i) = if i < q.2.1 4 s then q.2.2 1 s i else 0) ∧ (q.2.1 31 (q.2.1 6 s + i) = if i < q.2.1 4 s ∧ q.2.2 2 s i ≠ 0 then q.2.2 4 s i + 1 else 0)
def kIv (T : Nat → Nat → Nat) (m : Nat) (q : kP) : Prop := (6 ≤ q.1 1 ∧ q.1 1 ≤ 6 + q.1 0 ∧ q.1 0 ≤ 128) ∧ (∀ s, s < 6 → q.2.1 0 s = s ∧ q.2.1 1 s = 0 ∧ q.2.1 4 s = 0 ∧ q.2.1 13 s = 0) ∧ (∀ s, 6 ≤ s → s < q.1 1 → kIs T m q s) ∧ (∀ s i, 6 ≤ s → s < q.1 1 → i < q.2.1 4 s → kIi T m q s i) ∧ (∀ s i, 6 ≤ s → s < q.1 1 → i < q.2.1 7 s → kIj q s i)
/-- nothing of a schema has changed -/
def kSm (q q' : kP) (s : Nat) : Prop := (q.1 1 ≤ q'.1 1 ∧ q.1 2 ≤ q'.1 2 ∧ q.1 3 ≤ q'.1 3 ∧ q.1 6 ≤ q'.1 6) ∧ (∀ r, r ≤ 13 ∨ r = 18 → q'.2.1 r s = q.2.1 r s) ∧ (∀ r i, q'.2.2 r s i = q.2.2 r s i) ∧ (∀ r i, i < q.2.1 4 s → 20 ≤ r → r ≤ 25 → q'.2.1 r (q.2.2 0 s i) = q.2.1 r (q.2.2 0 s i)) ∧ (∀ r i, i < q.2.1 7 s → 30 ≤ r → r ≤ 35 → q'.2.1 r (q.2.1 6 s + i) = q.2.1 r (q.2.1 6 s + i)) ∧ (∀ i, i < q.1 6 → q'.2.1 40 i = q.2.1 40 i)
theorem kPo_sm {T : Nat → Nat → Nat} {q q' : kP} {a x : Nat} (h1 : q.1 6 ≤ q'.1 6) (h2 : ∀ i, i < q.1 6 → q'.2.1 40 i = q.2.1 40 i) (h : kPo T q a x) : kPo T q' a x := by
  obtain ⟨a1, a2, a3⟩ := h
  exact ⟨by omega, by rw [h2 a (by omega)]; exact a2, fun i hi => by rw [h2 _ (by omega)]; exact a3 i hi⟩
theorem kIs_sm {T : Nat → Nat → Nat} {m : Nat} {q q' : kP} {s : Nat} (h : kSm q q' s) (hi : kIs T m q s) : kIs T m q' s := by
  obtain ⟨h1, h2, h3, h4, h5, h6⟩ := h
  obtain ⟨a1, a2, a3, a4, a5, a6, a7, a8⟩ := hi
  unfold kIs
  rw [h2 0 (by omega), h2 1 (by omega), h2 4 (by omega), h2 13 (by omega), h2 6 (by omega), h2 7 (by omega), h2 18 (by omega), h2 8 (by omega), h2 9 (by omega), h3, h3]
  refine ⟨a1, ?_, a3, by omega, a5, a6, a7, a8⟩
  rcases a2 with a2 | ⟨b1, b2, b3, b4, b5⟩
  · exact .inl a2
  · exact .inr ⟨b1, b2, b3, b4, kPo_sm h1.2.2.2 h6 b5⟩
theorem kIi_sm {T : Nat → Nat → Nat} {m : Nat} {q q' : kP} {s i : Nat} (h : kSm q q' s) (hl : i < q.2.1 4 s) (hi : kIi T m q s i) : kIi T m q' s i := by
  obtain ⟨h1, h2, h3, h4, h5, h6⟩ := h
  obtain ⟨⟨a1, a2, a3⟩, ⟨a4, a5, a6⟩, a7, a8, a9, b⟩ := hi
  unfold kIi
  rw [h3, h3, h3, h3, h3, h3, h4 24 i hl (by omega) (by omega), h4 25 i hl (by omega) (by omega), h4 20 i hl (by omega) (by omega), h4 21 i hl (by omega) (by omega), h4 22 i hl (by omega) (by omega), h4 23 i hl (by omega) (by omega), h2 4 (by omega), h2 0 (by omega)]
  refine ⟨⟨by omega, a2, a3⟩, ⟨a4, a5, a6⟩, a7, by omega, a9, ?_⟩
  rcases b with b | ⟨b1, b2, b3, b4, b5⟩
  · exact .inl b
  · exact .inr ⟨b1, b2, b3, b4, kPo_sm h1.2.2.2 h6 b5⟩
theorem kIj_sm {q q' : kP} {s i : Nat} (h : kSm q q' s) (hl : i < q.2.1 7 s) (hi : kIj q s i) : kIj q' s i := by
  obtain ⟨h1, h2, h3, h4, h5, h6⟩ := h
  unfold kIj
  rw [h2 6 (by omega), h5 34 i hl (by omega) (by omega), h5 35 i hl (by omega) (by omega), h5 30 i hl (by omega) (by omega), h5 31 i hl (by omega) (by omega), h3, h3, h3, h2 4 (by omega)]
  exact hi
/-- all but one schema as they were: that one is looked at alone -/
theorem kIv_one {T : Nat → Nat → Nat} {m : Nat} {q q' : kP} (s : Nat) (h : kIv T m q) (hs : 6 ≤ s) (hn : q'.1 1 ≤ 6 + q'.1 0 ∧ q'.1 0 ≤ 128) (hl : q.1 1 ≤ q'.1 1) (hl2 : ∀ s', q.1 1 ≤ s' → s' < q'.1 1 → s' = s) (h0 : ∀ r s', s' < 6 → r = 0 ∨ r = 1 ∨ r = 4 ∨ r = 13 → q'.2.1 r s' = q.2.1 r s') (hsm : ∀ s', 6 ≤ s' → s' < q.1 1 → s' ≠ s → kSm q q' s') (h1 : s < q'.1 1 → kIs T m q' s) (h2 : ∀ i, s < q'.1 1 → i < q'.2.1 4 s → kIi T m q' s i) (h3 : ∀ i, s < q'.1 1 → i < q'.2.1 7 s → kIj q' s i) : kIv T m q' := by
  obtain ⟨a1, a2, a3, a4, a5⟩ := h
  refine ⟨⟨by omega, hn⟩, ?_, ?_, ?_, ?_⟩
  · intro s' hs'
    rw [h0 0 s' hs' (by omega), h0 1 s' hs' (by omega), h0 4 s' hs' (by omega), h0 13 s' hs' (by omega)]
    exact a2 s' hs'
  · intro s' b1 b2
    by_cases e : s' = s
    · subst e; exact h1 b2
    · have b3 : s' < q.1 1 := by
        rcases Nat.lt_or_ge s' (q.1 1) with g | g
        · exact g
        · exact absurd (hl2 s' g b2) e
      exact kIs_sm (hsm s' b1 b3 e) (a3 s' b1 b3)
  · intro s' i b1 b2 b4
    by_cases e : s' = s
    · subst e; exact h2 i b2 b4
    · have b3 : s' < q.1 1 := by
        rcases Nat.lt_or_ge s' (q.1 1) with g | g
        · exact g
        · exact absurd (hl2 s' g b2) e
      have hm := hsm s' b1 b3 e
      rw [hm.2.1 4 (by omega)] at b4
      exact kIi_sm hm b4 (a4 s' i b1 b3 b4)
  · intro s' i b1 b2 b4
    by_cases e : s' = s
    · subst e; exact h3 i b2 b4
    · have b3 : s' < q.1 1 := by
        rcases Nat.lt_or_ge s' (q.1 1) with g | g
        · exact g
        · exact absurd (hl2 s' g b2) e
      have hm := hsm s' b1 b3 e
      rw [hm.2.1 7 (by omega)] at b4
      exact kIj_sm hm b4 (a5 s' i b1 b3 b4)
/-- how much of a row is there -/
def kBn (q : kP) (r : Nat) : Nat := if r ≤ 13 ∨ r = 18 then q.1 1 else if 20 ≤ r ∧ r ≤ 25 then q.1 2 else if 30 ≤ r ∧ r ≤ 35 then q.1 3 else if r = 15 ∨ r = 27 then q.1 4 else if r = 16 ∨ r = 17 ∨ r = 19 then q.1 5 else if r = 40 then q.1 6 else 0
theorem kBn_cs {q : kP} {r i : Nat} (h : i < kBn q r) : (r ≤ 13 ∨ r = 18) ∧ i < q.1 1 ∨ (20 ≤ r ∧ r ≤ 25) ∧ i < q.1 2 ∨ (30 ≤ r ∧ r ≤ 35) ∧ i < q.1 3 ∨ (r = 15 ∨ r = 27) ∧ i < q.1 4 ∨ (r = 16 ∨ r = 17 ∨ r = 19) ∧ i < q.1 5 ∨ r = 40 ∧ i < q.1 6 := by
  unfold kBn at h
  repeat' split at h
  all_goals omega
theorem kBn_le {q q' : kP} (h : ∀ k, k < 8 → q.1 k ≤ q'.1 k) (r : Nat) : kBn q r ≤ kBn q' r := by
  have h1 := h 1 (by omega)
  have h2 := h 2 (by omega)
  have h3 := h 3 (by omega)
  have h4 := h 4 (by omega)
  have h5 := h 5 (by omega)
  have h6 := h 6 (by omega)
  unfold kBn
  repeat' split
  all_goals omega
/-- the frame: what was there stays -/
def kFm (q q' : kP) : Prop := (∀ k, k < 8 → q.1 k ≤ q'.1 k) ∧ (∀ r i, i < kBn q r → q'.2.1 r i = q.2.1 r i) ∧ (∀ r s i, s < q.1 1 → q'.2.2 r s i = q.2.2 r s i)
theorem kFm_refl (q : kP) : kFm q q := ⟨fun _ _ => Nat.le_refl _, fun _ _ _ => rfl, fun _ _ _ _ => rfl⟩
theorem kFm_tr {q r t : kP} (h : kFm q r) (g : kFm r t) : kFm q t := by
  obtain ⟨a0, a1, a2⟩ := h
  obtain ⟨b0, b1, b2⟩ := g
  have c1 := a0 1 (by omega)
  exact ⟨fun k hk => Nat.le_trans (a0 k hk) (b0 k hk), fun r' i hi => by rw [b1 r' i (Nat.lt_of_lt_of_le hi (kBn_le a0 r')), a1 r' i hi], fun r' s i hs => by rw [b2 r' s i (by omega), a2 r' s i hs]⟩
/-- beyond what was there anything may change -/
theorem kFm_up {q0 q q' : kP} (h : kFm q0 q) (hk : ∀ k, k < 8 → q.1 k ≤ q'.1 k) (hQ : ∀ r i, i < kBn q0 r → q'.2.1 r i = q.2.1 r i) (hX : ∀ r s i, s < q0.1 1 → q'.2.2 r s i = q.2.2 r s i) : kFm q0 q' :=
  ⟨fun k h8 => Nat.le_trans (h.1 k h8) (hk k h8), fun r i hi => by rw [hQ r i hi, h.2.1 r i hi], fun r s i hs => by rw [hX r s i hs, h.2.2 r s i hs]⟩
theorem kFm_r {q q' : kP} (h : kFm q q') {r s : Nat} (hr : r ≤ 13 ∨ r = 18) (hs : s < q.1 1) : q'.2.1 r s = q.2.1 r s := h.2.1 r s (by unfold kBn; rw [if_pos hr]; exact hs)
theorem kFm_k {q q' : kP} (h : kFm q q') {r s : Nat} (hr : 20 ≤ r ∧ r ≤ 25) (hs : s < q.1 2) : q'.2.1 r s = q.2.1 r s := h.2.1 r s (by unfold kBn; rw [if_neg (by omega), if_pos hr]; exact hs)
theorem kFm_p {q q' : kP} (h : kFm q q') {r s : Nat} (hr : 30 ≤ r ∧ r ≤ 35) (hs : s < q.1 3) : q'.2.1 r s = q.2.1 r s := h.2.1 r s (by unfold kBn; rw [if_neg (by omega), if_neg (by omega), if_pos hr]; exact hs)
