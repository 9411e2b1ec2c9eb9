/-! PURE: parts, kids, names -/
/-- all parts of a schema that has none yet -/
theorem kIv_ap {T : Nat → Nat → Nat} {m n s : Nat} {q0 q : kP} (h : kIv T m q) (hF : kFm q0 q) (hs0 : q0.1 1 ≤ s) (hs6 : 6 ≤ s) (hs : s < q.1 1) (h9 : 9 ≤ q.2.1 0 s) (h4 : q.2.1 4 s = 0) (h32 : n ≤ 32) : kIv T m (kAp s n q) ∧ kFm q0 (kAp s n q) := by
  have ha := h.1
  have hp : ∀ s', 6 ≤ s' → s' < q.1 1 → q.2.1 6 s' + q.2.1 7 s' ≤ q.1 3 := fun s' h1 h2 => (h.2.2.1 s' h1 h2).2.2.2.1
  have hI := h.2.2.1 s hs6 hs
  have hf3 := hF.1 3 (by omega)
  have hQ := kAp_Q s n q
  have c1 : (kAp s n q).1 1 = q.1 1 := rfl
  have c3 : (kAp s n q).1 3 = q.1 3 + n := rfl
  have hrow : ∀ r s', (s' ≠ s ∨ r ≠ 6 ∧ r ≠ 7) → r ≤ 13 ∨ r = 18 → (kAp s n q).2.1 r s' = q.2.1 r s' := by
    intro r s' hs hr
    rw [hQ]; repeat' rw [if_neg (by omega)]
  have hoth : ∀ r k, 14 ≤ r → (r < 30 ∨ 35 < r ∨ k < q.1 3) → (kAp s n q).2.1 r k = q.2.1 r k := by
    intro r k a b
    rw [hQ]; repeat' rw [if_neg (by omega)]
  have r6 : (kAp s n q).2.1 6 s = q.1 3 := by rw [hQ, if_pos ⟨rfl, rfl⟩]
  have r7 : (kAp s n q).2.1 7 s = n := by rw [hQ, if_neg (by omega), if_pos ⟨rfl, rfl⟩]
  refine ⟨kIv_one s h hs6 ?_ ?_ ?_ ?_ ?_ ?_ ?_ ?_, ?_⟩
  · exact ⟨ha.2.1, ha.2.2⟩
  · exact Nat.le_refl _
  · intro s' a b; rw [c1] at b; omega
  · intro r s' a b; exact hrow r s' (by omega) (by omega)
  · intro s' a b c
    exact ⟨⟨Nat.le_refl _, Nat.le_refl _, by rw [c3]; omega, Nat.le_refl _⟩, fun r hr => hrow r s' (.inl c) hr, fun r i => rfl, fun r i hi h1 h2 => hoth r _ (by omega) (by omega), fun r i hi h1 h2 => hoth r _ (by omega) (by have := hp s' a b; omega), fun i hi => hoth 40 i (by omega) (by omega)⟩
  · intro _
    obtain ⟨a1, a2, a3, a4, a5, a6, a7, a8⟩ := hI
    unfold kIs
    rw [r6, r7, c3, hrow 0 s (by omega) (by omega), hrow 1 s (by omega) (by omega), hrow 4 s (by omega) (by omega), hrow 13 s (by omega) (by omega), hrow 9 s (by omega) (by omega), hrow 8 s (by omega) (by omega)]
    refine ⟨a1, ?_, a3, Nat.le_refl _, by omega, by omega, a7, h32⟩
    rcases a2 with a2 | ⟨b1, b2, b3, b4, b5⟩
    · omega
    · exact .inr ⟨b1, b2, b3, b4, kPo_sm (Nat.le_refl _) (fun i _ => hoth 40 i (by omega) (by omega)) b5⟩
  · intro i _ hi
    rw [hrow 4 s (by omega) (by omega)] at hi
    omega
  · intro i _ hi
    rw [r7] at hi
    unfold kIj
    rw [r6, hrow 4 s (by omega) (by omega), h4]
    refine ⟨⟨?_, ?_⟩, ?_, ?_⟩
    · rw [hQ, if_neg (by omega), if_neg (by omega), if_neg (by omega), if_pos (by omega)]
    · rw [hQ, if_neg (by omega), if_neg (by omega), if_neg (by omega), if_neg (by omega), if_pos (by omega)]; omega
    · rw [hQ, if_neg (by omega), if_neg (by omega), if_pos (by omega), if_neg (by omega)]
    · rw [hQ, if_neg (by omega), if_neg (by omega), if_pos (by omega), if_neg (by omega)]
  · refine kFm_up hF (fun k _ => ?_) (fun r i hi => ?_) (fun r s' i hs => rfl)
    · rw [kAp_1]
      split
      · rename_i e; subst e; omega
      · exact Nat.le_refl _
    · rcases kBn_cs hi with hb | hb | hb | hb | hb | hb
      · exact hrow r i (by omega) hb.1
      · exact hoth r i (by omega) (by omega)
      · exact hoth r i (by omega) (by omega)
      · exact hoth r i (by omega) (by omega)
      · exact hoth r i (by omega) (by omega)
      · exact hoth r i (by omega) (by omega)
/-- a new part: its kid, its place among the parts -/
theorem kIv_np {T : Nat → Nat → Nat} {m s a b dv : Nat} {q0 q q' : kP} (h : kIv T m q) (hF : kFm q0 q) (hs0 : q0.1 1 ≤ s) (hs6 : 6 ≤ s) (hs : s < q.1 1) (h8 : 8 ≤ q.2.1 0 s) (hlt : q.2.1 4 s < q.2.1 7 s) (hk0 : ∀ i, i < q.2.1 4 s → q0.1 2 ≤ q.2.2 0 s i) (hp0 : q0.1 3 ≤ q.2.1 6 s)
    (c0 : q'.1 0 = q.1 0) (c1 : q'.1 1 = q.1 1) (c2 : q'.1 2 = q.1 2 + 1) (c3 : q'.1 3 = q.1 3) (c45 : ∀ k, k = 4 ∨ k = 5 ∨ k = 7 → q'.1 k = q.1 k) (c6 : q.1 6 ≤ q'.1 6)
    (f1 : ∀ r s', r ≤ 13 ∨ r = 18 → (s' ≠ s ∨ r ≠ 4 ∧ r ≠ 13) → q'.2.1 r s' = q.2.1 r s') (f2 : q'.2.1 4 s = q.2.1 4 s + 1) (f2' : q'.2.1 13 s = if q.2.1 4 s = 0 then q.1 2 + 1 else q.2.1 13 s)
    (f3 : ∀ r k, 20 ≤ r → r ≤ 25 → k < q.1 2 → (r ≠ 23 ∨ q.2.1 4 s = 0 ∨ k ≠ q.2.2 0 s (q.2.1 4 s - 1)) → q'.2.1 r k = q.2.1 r k) (f4 : q.2.1 4 s ≠ 0 → q'.2.1 23 (q.2.2 0 s (q.2.1 4 s - 1)) = q.1 2 + 1)
    (f5 : q'.2.1 20 (q.1 2) = a ∧ q'.2.1 21 (q.1 2) = b ∧ q'.2.1 22 (q.1 2) = dv ∧ q'.2.1 23 (q.1 2) = 0 ∧ q'.2.1 24 (q.1 2) = s ∧ q'.2.1 25 (q.1 2) = q.2.1 4 s)
    (f6 : ∀ r j, 30 ≤ r → r ≤ 35 → (j ≠ q.2.1 6 s + q.2.1 4 s ∨ r ≠ 30 ∧ r ≠ 31) → q'.2.1 r j = q.2.1 r j) (f7 : q'.2.1 30 (q.2.1 6 s + q.2.1 4 s) = a ∧ q'.2.1 31 (q.2.1 6 s + q.2.1 4 s) = if b ≠ 0 then q'.2.2 4 s (q.2.1 4 s) + 1 else 0)
    (f8 : ∀ i, i < q.1 6 → q'.2.1 40 i = q.2.1 40 i) (f8' : ∀ r i, r = 15 ∨ r = 27 ∨ r = 16 ∨ r = 17 ∨ r = 19 → q'.2.1 r i = q.2.1 r i)
    (f9 : ∀ r s' i, (s' ≠ s ∨ i ≠ q.2.1 4 s) → q'.2.2 r s' i = q.2.2 r s' i) (f9' : q'.2.2 0 s (q.2.1 4 s) = q.1 2 ∧ q'.2.2 1 s (q.2.1 4 s) = a ∧ q'.2.2 2 s (q.2.1 4 s) = b ∧ q'.2.2 3 s (q.2.1 4 s) = dv)
    (ga : a ≤ q.1 1) (gd : dv ≤ m) (gb : q.2.1 0 s ≤ 9 ∧ b = 0 ∨ 10 ≤ q.2.1 0 s ∧ 0 < b ∧ b ≤ m ∧ kNam T (b - 1) = true ∧ kPo T q' (q'.2.2 4 s (q.2.1 4 s)) (b - 1)) : kIv T m q' ∧ kFm q0 q' ∧ ∀ i, i < q'.2.1 4 s → q0.1 2 ≤ q'.2.2 0 s i := by
  have ha := h.1
  have hI := h.2.2.1 s hs6 hs
  have hff := hF.1
  have hf2 := hff 2 (by omega)
  have hki := h.2.2.2.1
  have hpj := h.2.2.2.2
  refine ⟨kIv_one s h hs6 ?_ ?_ ?_ ?_ ?_ ?_ ?_ ?_, ?_, ?_⟩
  · rw [c1, c0]; exact ⟨ha.2.1, ha.2.2⟩
  · omega
  · intro s' x y; omega
  · intro r s' x y; exact f1 r s' (by omega) (by omega)
  · intro s' x y z
    refine ⟨⟨by omega, by omega, by omega, c6⟩, fun r hr => f1 r s' hr (.inl z), fun r i => f9 r s' i (.inl z), fun r i hi h1 h2 => ?_, fun r i hi h1 h2 => ?_, f8⟩
    · have k1 := (hki s' i x y hi).1
      refine f3 r _ h1 h2 k1.1 ?_
      by_cases hz : q.2.1 4 s = 0
      · exact .inr (.inl hz)
      · refine .inr (.inr (fun e => ?_))
        have k2 := (hki s (q.2.1 4 s - 1) hs6 hs (by omega)).1
        rw [← e, k1.2.1] at k2
        exact z k2.2.1
    · refine f6 r _ h1 h2 ?_
      by_cases e : q.2.1 6 s' + i = q.2.1 6 s + q.2.1 4 s
      · exfalso
        have k1 := (hpj s' i x y hi).1.1
        have k2 := (hpj s (q.2.1 4 s) hs6 hs hlt).1.1
        rw [e, k2] at k1
        exact z k1.symm
      · exact .inl e
  · intro _
    obtain ⟨a1, a2, a3, a4, a5, a6, a7, a8⟩ := hI
    unfold kIs
    rw [f2, f2', f1 0 s (by omega) (by omega), f1 1 s (by omega) (by omega), f1 6 s (by omega) (by omega), f1 7 s (by omega) (by omega), f1 8 s (by omega) (by omega), f1 9 s (by omega) (by omega), c3]
    refine ⟨a1, ?_, ?_, a4, by omega, by omega, a7, a8⟩
    · rcases a2 with a2 | ⟨b1, b2, b3, b4, b5⟩
      · exact .inl a2
      · exact .inr ⟨b1, b2, b3, b4, kPo_sm c6 f8 b5⟩
    · by_cases hz : q.2.1 4 s = 0
      · rw [if_pos hz, if_neg (by omega)]
        have := f9'.1
        rw [hz] at this
        rw [this]
      · rw [if_neg hz, a3, if_neg hz, if_neg (by omega), f9 0 s 0 (.inr (by omega))]
  · intro i _ hi
    rw [f2] at hi
    unfold kIi
    rw [f2, f1 0 s (by omega) (by omega), c1, c2]
    rcases Nat.lt_or_ge i (q.2.1 4 s) with hlt2 | hge
    · have e := fun r => f9 r s i (.inr (by omega))
      obtain ⟨⟨a1, a2, a3⟩, ⟨a4, a5, a6⟩, a7, a8, a9, bb⟩ := hki s i hs6 hs hlt2
      have e4 := f9 4 s i (.inr (by omega))
      rw [e 0, e 1, e 2, e 3, e4, f3 24 _ (by omega) (by omega) a1 (by omega), f3 25 _ (by omega) (by omega) a1 (by omega), f3 20 _ (by omega) (by omega) a1 (by omega), f3 21 _ (by omega) (by omega) a1 (by omega), f3 22 _ (by omega) (by omega) a1 (by omega)]
      refine ⟨⟨by omega, a2, a3⟩, ⟨a4, a5, a6⟩, ?_, a8, a9, ?_⟩
      · rw [if_pos (by omega)]
        by_cases hl : i + 1 = q.2.1 4 s
        · have e1 : i = q.2.1 4 s - 1 := by omega
          rw [e1, f4 (by omega)]
          have e2 : q.2.1 4 s - 1 + 1 = q.2.1 4 s := by omega
          rw [e2, f9'.1]
        · have hne : q.2.2 0 s i ≠ q.2.2 0 s (q.2.1 4 s - 1) := by
            intro e
            have k2 := (hki s (q.2.1 4 s - 1) hs6 hs (by omega)).1
            rw [← e, a3] at k2
            omega
          rw [f3 23 _ (by omega) (by omega) a1 (.inr (.inr hne)), a7, if_pos (by omega), f9 0 s (i + 1) (.inr (by omega))]
      · rcases bb with bb | ⟨b1, b2, b3, b4, b5⟩
        · exact .inl bb
        · exact .inr ⟨b1, b2, b3, b4, kPo_sm c6 f8 b5⟩
    · have e : i = q.2.1 4 s := by omega
      subst e
      rw [f9'.1, f9'.2.1, f9'.2.2.1, f9'.2.2.2, f5.1, f5.2.1, f5.2.2.1, f5.2.2.2.1, f5.2.2.2.2.1, f5.2.2.2.2.2, if_neg (by omega)]
      exact ⟨⟨by omega, rfl, rfl⟩, ⟨rfl, rfl, rfl⟩, rfl, ga, gd, gb⟩
  · intro i _ hi
    rw [f1 7 s (by omega) (by omega)] at hi
    obtain ⟨⟨a1, a2⟩, a3, a4⟩ := hpj s i hs6 hs hi
    unfold kIj
    rw [f1 6 s (by omega) (by omega), f2, f6 34 _ (by omega) (by omega) (by omega), f6 35 _ (by omega) (by omega) (by omega)]
    refine ⟨⟨a1, a2⟩, ?_, ?_⟩
    · by_cases e : i = q.2.1 4 s
      · subst e
        rw [f7.1, if_pos (by omega), f9'.2.1]
      · rw [f6 30 _ (by omega) (by omega) (.inl (by omega)), a3, f9 1 s i (.inr e)]
        by_cases hl : i < q.2.1 4 s
        · rw [if_pos hl, if_pos (by omega)]
        · rw [if_neg hl, if_neg (by omega)]
    · by_cases e : i = q.2.1 4 s
      · subst e
        rw [f7.2, f9'.2.2.1]
        by_cases hb : b ≠ 0
        · rw [if_pos hb, if_pos ⟨by omega, hb⟩]
        · rw [if_neg hb, if_neg (fun x => hb x.2)]
      · rw [f6 31 _ (by omega) (by omega) (.inl (by omega)), a4, f9 2 s i (.inr e), f9 4 s i (.inr e)]
        by_cases hl : i < q.2.1 4 s
        · by_cases hb : q.2.2 2 s i ≠ 0
          · rw [if_pos ⟨hl, hb⟩, if_pos ⟨by omega, hb⟩]
          · rw [if_neg (fun x => hb x.2), if_neg (fun x => hb x.2)]
        · rw [if_neg (fun x => hl x.1), if_neg (by omega)]
  · refine kFm_up hF (fun k hk => ?_) (fun r i hi => ?_) (fun r s' i hs' => f9 r s' i (.inl (by omega)))
    · have hc : k = 0 ∨ k = 1 ∨ k = 2 ∨ k = 3 ∨ k = 4 ∨ k = 5 ∨ k = 6 ∨ k = 7 := by omega
      rcases hc with rfl | rfl | rfl | rfl | rfl | rfl | rfl | rfl
      · omega
      · omega
      · omega
      · omega
      · rw [c45 4 (by omega)]; exact Nat.le_refl _
      · rw [c45 5 (by omega)]; exact Nat.le_refl _
      · exact c6
      · rw [c45 7 (by omega)]; exact Nat.le_refl _
    · rcases kBn_cs hi with hb | hb | hb | hb | hb | hb
      · exact f1 r i hb.1 (.inl (by omega))
      · refine f3 r i hb.1.1 hb.1.2 (by omega) ?_
        by_cases hz : q.2.1 4 s = 0
        · exact .inr (.inl hz)
        · have := hk0 (q.2.1 4 s - 1) (by omega)
          exact .inr (.inr (by omega))
      · exact f6 r i hb.1.1 hb.1.2 (.inl (by omega))
      · exact f8' r i (by omega)
      · exact f8' r i (by omega)
      · rw [hb.1]; exact f8 i (by have := hff 6 (by omega); omega)
  · intro i hi
    rw [f2] at hi
    by_cases e : i = q.2.1 4 s
    · subst e
      rw [f9'.1]; exact hf2
    · rw [f9 0 s i (.inr e)]
      exact hk0 i (by omega)
