/-! PURE: each step of the reading of a schema keeps it -/
theorem kSh_1 (k : Nat) (q : kP) (j : Nat) : (kSh k q).1 j = if j = 1 then q.1 1 + 1 else q.1 j := rfl
theorem kSh_Q (k : Nat) (q : kP) (r i : Nat) : (kSh k q).2.1 r i = if i = q.1 1 then (if r = 0 then k else if r = 1 ∨ r = 4 ∨ r = 7 ∨ r = 8 ∨ r = 13 ∨ r = 18 then 0 else if r = 6 then q.1 3 else q.2.1 r i) else q.2.1 r i := rfl
theorem kSh_X (k : Nat) (q : kP) : (kSh k q).2.2 = q.2.2 := rfl
theorem kAp_1 (s n : Nat) (q : kP) (j : Nat) : (kAp s n q).1 j = if j = 3 then q.1 3 + n else q.1 j := rfl
theorem kAp_Q (s n : Nat) (q : kP) (r i : Nat) : (kAp s n q).2.1 r i = if r = 6 ∧ i = s then q.1 3 else if r = 7 ∧ i = s then n else if (r = 30 ∨ r = 31 ∨ r = 32 ∨ r = 33) ∧ q.1 3 ≤ i ∧ i < q.1 3 + n then 0 else if r = 34 ∧ q.1 3 ≤ i ∧ i < q.1 3 + n then s else if r = 35 ∧ q.1 3 ≤ i ∧ i < q.1 3 + n then i - q.1 3 else q.2.1 r i := rfl
theorem kAp_X (s n : Nat) (q : kP) : (kAp s n q).2.2 = q.2.2 := rfl
theorem kAk_1 (s : Nat) (q : kP) (j : Nat) : (kAk s q).1 j = if j = 2 then q.1 2 + 1 else q.1 j := rfl
theorem kAk_Q (s : Nat) (q : kP) (r i : Nat) : (kAk s q).2.1 r i = if i = q.1 2 ∧ (r = 20 ∨ r = 21 ∨ r = 22 ∨ r = 23) then 0 else if i = q.1 2 ∧ r = 24 then s else if i = q.1 2 ∧ r = 25 then q.2.1 4 s else if r = 4 ∧ i = s then q.2.1 4 s + 1 else if r = 13 ∧ i = s ∧ q.2.1 4 s = 0 then q.1 2 + 1 else if r = 23 ∧ q.2.1 4 s ≠ 0 ∧ i = q.2.2 0 s (q.2.1 4 s - 1) then q.1 2 + 1 else q.2.1 r i := rfl
theorem kAk_X (s : Nat) (q : kP) (r s' i : Nat) : (kAk s q).2.2 r s' i = if s' = s ∧ i = q.2.1 4 s ∧ r ≤ 3 then (if r = 0 then q.1 2 else 0) else q.2.2 r s' i := rfl
theorem kPn_1 (T : Nat → Nat → Nat) (x : Nat) (q : kP) (j : Nat) : (kPn T x q).1 j = if j = 6 then q.1 6 + 1 + T 2 x else q.1 j := rfl
theorem kPn_Q (T : Nat → Nat → Nat) (x : Nat) (q : kP) (r i : Nat) : (kPn T x q).2.1 r i = if r = 40 ∧ i = q.1 6 then T 2 x else if r = 40 ∧ q.1 6 < i ∧ i ≤ q.1 6 + T 2 x then T 6 (T 5 x + (i - q.1 6 - 1)) else q.2.1 r i := rfl
theorem kPn_X (T : Nat → Nat → Nat) (x : Nat) (q : kP) : (kPn T x q).2.2 = q.2.2 := rfl
theorem kPn_po (T : Nat → Nat → Nat) (x : Nat) (q : kP) : kPo T (kPn T x q) (q.1 6) x := by
  refine ⟨Nat.le_refl _, ?_, fun i hi => ?_⟩
  · rw [kPn_Q, if_pos ⟨rfl, rfl⟩]
  · rw [kPn_Q, if_neg (by omega), if_pos (by omega)]
    have : q.1 6 + 1 + i - q.1 6 - 1 = i := by omega
    rw [this]
/-- a new union and its parts -/
theorem kIv_un {T : Nat → Nat → Nat} {m n : Nat} {q : kP} (h : kIv T m q) (hn : q.1 1 + 1 ≤ 6 + q.1 0) (h32 : n ≤ 32) : kIv T m (kAp (q.1 1) n (kSh 8 q)) ∧ kFm q (kAp (q.1 1) n (kSh 8 q)) := by
  have ha := h.1
  have hp : ∀ s', 6 ≤ s' → s' < q.1 1 → q.2.1 6 s' + q.2.1 7 s' ≤ q.1 3 := fun s' h1 h2 => (h.2.2.1 s' h1 h2).2.2.2.1
  have hQ : ∀ r i, (kAp (q.1 1) n (kSh 8 q)).2.1 r i = if r = 6 ∧ i = q.1 1 then q.1 3 else if r = 7 ∧ i = q.1 1 then n else if (r = 30 ∨ r = 31 ∨ r = 32 ∨ r = 33) ∧ q.1 3 ≤ i ∧ i < q.1 3 + n then 0 else if r = 34 ∧ q.1 3 ≤ i ∧ i < q.1 3 + n then q.1 1 else if r = 35 ∧ q.1 3 ≤ i ∧ i < q.1 3 + n then i - q.1 3 else (kSh 8 q).2.1 r i := fun r i => rfl
  have h1 : ∀ j, (kAp (q.1 1) n (kSh 8 q)).1 j = if j = 3 then q.1 3 + n else if j = 1 then q.1 1 + 1 else q.1 j := fun j => rfl
  have hX : (kAp (q.1 1) n (kSh 8 q)).2.2 = q.2.2 := rfl
  have c1 : (kAp (q.1 1) n (kSh 8 q)).1 1 = q.1 1 + 1 := rfl
  have c3 : (kAp (q.1 1) n (kSh 8 q)).1 3 = q.1 3 + n := rfl
  have r0 : (kAp (q.1 1) n (kSh 8 q)).2.1 0 (q.1 1) = 8 := by
    rw [hQ]; repeat' rw [if_neg (by omega)]
    rw [kSh_Q, if_pos rfl, if_pos rfl]
  have rz : ∀ r, r = 1 ∨ r = 4 ∨ r = 8 ∨ r = 13 ∨ r = 18 → (kAp (q.1 1) n (kSh 8 q)).2.1 r (q.1 1) = 0 := by
    intro r hr
    rw [hQ]; repeat' rw [if_neg (by omega)]
    rw [kSh_Q, if_pos rfl, if_neg (by omega), if_pos (by omega)]
  have r6 : (kAp (q.1 1) n (kSh 8 q)).2.1 6 (q.1 1) = q.1 3 := by rw [hQ, if_pos ⟨rfl, rfl⟩]
  have r7 : (kAp (q.1 1) n (kSh 8 q)).2.1 7 (q.1 1) = n := by rw [hQ, if_neg (by omega), if_pos ⟨rfl, rfl⟩]
  have hrow : ∀ r s', s' < q.1 1 → r ≤ 13 ∨ r = 18 → (kAp (q.1 1) n (kSh 8 q)).2.1 r s' = q.2.1 r s' := by
    intro r s' hs hr
    rw [hQ]; repeat' rw [if_neg (by omega)]
    rw [kSh_Q, if_neg (by omega)]
  have hkid : ∀ r k, 20 ≤ r → r ≤ 25 → (kAp (q.1 1) n (kSh 8 q)).2.1 r k = q.2.1 r k := by
    intro r k a b
    rw [hQ]; repeat' rw [if_neg (by omega)]
    rw [kSh_Q]
    split
    · repeat' rw [if_neg (by omega)]
    · rfl
  have hpart : ∀ r j, 30 ≤ r → r ≤ 35 → j < q.1 3 → (kAp (q.1 1) n (kSh 8 q)).2.1 r j = q.2.1 r j := by
    intro r k a b c
    rw [hQ]; repeat' rw [if_neg (by omega)]
    rw [kSh_Q]
    split
    · repeat' rw [if_neg (by omega)]
    · rfl
  have hoth : ∀ r k, r = 15 ∨ r = 27 ∨ r = 16 ∨ r = 17 ∨ r = 19 ∨ r = 40 → (kAp (q.1 1) n (kSh 8 q)).2.1 r k = q.2.1 r k := by
    intro r k a
    rw [hQ]; repeat' rw [if_neg (by omega)]
    rw [kSh_Q]
    split
    · repeat' rw [if_neg (by omega)]
    · rfl
  refine ⟨kIv_one (q.1 1) h ha.1 ?_ ?_ ?_ ?_ ?_ ?_ ?_ ?_, ?_⟩
  · rw [c1]; exact ⟨hn, ha.2.2⟩
  · rw [c1]; omega
  · intro s' a b; rw [c1] at b; omega
  · intro r s' a b; exact hrow r s' (by omega) (by omega)
  · intro s' a b c
    refine ⟨⟨by rw [c1]; omega, Nat.le_refl _, by rw [c3]; omega, Nat.le_refl _⟩, fun r hr => hrow r s' b hr, fun r i => by rw [hX], fun r i hi h1 h2 => hkid r _ h1 h2, fun r i hi h1 h2 => hpart r _ h1 h2 (by have := hp s' a b; omega), fun i hi => hoth 40 i (by omega)⟩
  · intro _
    unfold kIs
    rw [r0, rz 1 (by omega), rz 4 (by omega), rz 13 (by omega), r6, r7, rz 8 (by omega), c3]
    exact ⟨by omega, .inl ⟨by omega, rfl⟩, by rw [if_pos rfl], Nat.le_refl _, by omega, by omega, by omega, h32⟩
  · intro i _ hi
    rw [rz 4 (by omega)] at hi
    omega
  · intro i _ hi
    rw [r7] at hi
    unfold kIj
    rw [r6, rz 4 (by omega)]
    refine ⟨⟨?_, ?_⟩, ?_, ?_⟩
    · rw [hQ, if_neg (by omega), if_neg (by omega), if_neg (by omega), if_pos (by omega)]
    · rw [hQ, if_neg (by omega), if_neg (by omega), if_neg (by omega), if_neg (by omega), if_pos (by omega)]; omega
    · rw [hQ, if_neg (by omega), if_neg (by omega), if_pos (by omega), if_neg (by omega)]
    · rw [hQ, if_neg (by omega), if_neg (by omega), if_pos (by omega), if_neg (by omega)]
  · refine ⟨fun k _ => ?_, fun r i hi => ?_, fun r s i hs => by rw [hX]⟩
    · rw [h1]
      split
      · rename_i e; subst e; omega
      · split
        · rename_i e; subst e; omega
        · exact Nat.le_refl _
    · rcases kBn_cs hi with hb | hb | hb | hb | hb | hb
      · exact hrow r i hb.2 hb.1
      · exact hkid r i hb.1.1 hb.1.2
      · exact hpart r i hb.1.1 hb.1.2 hb.2
      · exact hoth r i (by omega)
      · exact hoth r i (by omega)
      · exact hoth r i (by omega)
/-- a new schema with a name -/
theorem kIv_nn {T : Nat → Nat → Nat} {m k x : Nat} {q : kP} (h : kIv T m q) (hn : q.1 1 + 1 ≤ 6 + q.1 0) (hk : 9 ≤ k ∧ k ≤ 11) (hx : x < m) (hnam : kNam T x = true) : kIv T m (kNn T (q.1 1) x (kSh k q)) ∧ kFm q (kNn T (q.1 1) x (kSh k q)) := by
  have ha := h.1
  have hQ : ∀ r i, (kNn T (q.1 1) x (kSh k q)).2.1 r i = if r = 9 ∧ i = q.1 1 then q.1 6 else if r = 1 ∧ i = q.1 1 then x + 1 else (kPn T x (kSh k q)).2.1 r i := by
    intro r i
    unfold kNn
    rw [kQ_Q, kQ_Q]
    rfl
  have hP : ∀ r i, (kPn T x (kSh k q)).2.1 r i = if r = 40 ∧ i = q.1 6 then T 2 x else if r = 40 ∧ q.1 6 < i ∧ i ≤ q.1 6 + T 2 x then T 6 (T 5 x + (i - q.1 6 - 1)) else (kSh k q).2.1 r i := fun r i => rfl
  have h1 : ∀ j, (kNn T (q.1 1) x (kSh k q)).1 j = if j = 6 then q.1 6 + 1 + T 2 x else if j = 1 then q.1 1 + 1 else q.1 j := fun j => rfl
  have hX : (kNn T (q.1 1) x (kSh k q)).2.2 = q.2.2 := rfl
  have c1 : (kNn T (q.1 1) x (kSh k q)).1 1 = q.1 1 + 1 := rfl
  have c3 : (kNn T (q.1 1) x (kSh k q)).1 3 = q.1 3 := rfl
  have c6 : (kNn T (q.1 1) x (kSh k q)).1 6 = q.1 6 + 1 + T 2 x := rfl
  have r0 : (kNn T (q.1 1) x (kSh k q)).2.1 0 (q.1 1) = k := by
    rw [hQ]; repeat' rw [if_neg (by omega)]
    rw [hP]; repeat' rw [if_neg (by omega)]
    rw [kSh_Q, if_pos rfl, if_pos rfl]
  have rz : ∀ r, r = 4 ∨ r = 7 ∨ r = 8 ∨ r = 13 ∨ r = 18 → (kNn T (q.1 1) x (kSh k q)).2.1 r (q.1 1) = 0 := by
    intro r hr
    rw [hQ]; repeat' rw [if_neg (by omega)]
    rw [hP]; repeat' rw [if_neg (by omega)]
    rw [kSh_Q, if_pos rfl, if_neg (by omega), if_pos (by omega)]
  have r6 : (kNn T (q.1 1) x (kSh k q)).2.1 6 (q.1 1) = q.1 3 := by
    rw [hQ]; repeat' rw [if_neg (by omega)]
    rw [hP]; repeat' rw [if_neg (by omega)]
    rw [kSh_Q, if_pos rfl, if_neg (by omega), if_neg (by omega), if_pos rfl]
  have r9 : (kNn T (q.1 1) x (kSh k q)).2.1 9 (q.1 1) = q.1 6 := by rw [hQ, if_pos ⟨rfl, rfl⟩]
  have r1 : (kNn T (q.1 1) x (kSh k q)).2.1 1 (q.1 1) = x + 1 := by rw [hQ, if_neg (by omega), if_pos ⟨rfl, rfl⟩]
  have hrow : ∀ r s', s' < q.1 1 → r ≤ 13 ∨ r = 18 → (kNn T (q.1 1) x (kSh k q)).2.1 r s' = q.2.1 r s' := by
    intro r s' hs hr
    rw [hQ]; repeat' rw [if_neg (by omega)]
    rw [hP]; repeat' rw [if_neg (by omega)]
    rw [kSh_Q, if_neg (by omega)]
  have hoth : ∀ r k', 14 ≤ r → r ≠ 18 → r ≠ 40 → (kNn T (q.1 1) x (kSh k q)).2.1 r k' = q.2.1 r k' := by
    intro r k' a b c
    rw [hQ]; repeat' rw [if_neg (by omega)]
    rw [hP]; repeat' rw [if_neg (by omega)]
    rw [kSh_Q]
    split
    · repeat' rw [if_neg (by omega)]
    · rfl
  have hpool : ∀ i, i < q.1 6 → (kNn T (q.1 1) x (kSh k q)).2.1 40 i = q.2.1 40 i := by
    intro i hi
    rw [hQ]; repeat' rw [if_neg (by omega)]
    rw [hP]; repeat' rw [if_neg (by omega)]
    rw [kSh_Q]
    split
    · repeat' rw [if_neg (by omega)]
    · rfl
  refine ⟨kIv_one (q.1 1) h ha.1 ?_ ?_ ?_ ?_ ?_ ?_ ?_ ?_, ?_⟩
  · rw [c1]; exact ⟨hn, ha.2.2⟩
  · rw [c1]; omega
  · intro s' a b; rw [c1] at b; omega
  · intro r s' a b; exact hrow r s' (by omega) (by omega)
  · intro s' a b c
    exact ⟨⟨by rw [c1]; omega, Nat.le_refl _, Nat.le_refl _, by rw [c6]; omega⟩, fun r hr => hrow r s' b hr, fun r i => by rw [hX], fun r i hi h1 h2 => hoth r _ (by omega) (by omega) (by omega), fun r i hi h1 h2 => hoth r _ (by omega) (by omega) (by omega), fun i hi => hpool i hi⟩
  · intro _
    unfold kIs
    rw [r0, r1, rz 4 (by omega), rz 13 (by omega), r6, rz 7 (by omega), rz 8 (by omega), r9, c3]
    refine ⟨by omega, .inr ⟨by omega, by omega, by omega, hnam, ?_⟩, by rw [if_pos rfl], by omega, by omega, by omega, by omega, by omega⟩
    have hpo := kPn_po T x (kSh k q)
    refine ⟨by rw [c6, Nat.add_sub_cancel]; exact Nat.le_refl _, ?_, fun i hi => ?_⟩
    · rw [hQ, if_neg (by omega), if_neg (by omega)]
      exact hpo.2.1
    · rw [hQ, if_neg (by omega), if_neg (by omega)]
      exact hpo.2.2 i hi
  · intro i _ hi
    rw [rz 4 (by omega)] at hi
    omega
  · intro i _ hi
    rw [rz 7 (by omega)] at hi
    omega
  · refine ⟨fun k' _ => ?_, fun r i hi => ?_, fun r s i hs => by rw [hX]⟩
    · rw [h1]
      split
      · rename_i e; subst e; omega
      · split
        · rename_i e; subst e; omega
        · exact Nat.le_refl _
    · rcases kBn_cs hi with hb | hb | hb | hb | hb | hb
      · exact hrow r i hb.2 hb.1
      · exact hoth r i (by omega) (by omega) (by omega)
      · exact hoth r i (by omega) (by omega) (by omega)
      · exact hoth r i (by omega) (by omega) (by omega)
      · exact hoth r i (by omega) (by omega) (by omega)
      · rw [hb.1]; exact hpool i hb.2
