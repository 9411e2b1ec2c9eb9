/-! PURE: a field's schema, items, sizes, what is done -/
section
variable {T : Nat → Nat → Nat} {m s x dv : Nat} {q0 q : kP}
theorem kLo_ss {i : Nat} (h : kLo T m q0 s q) (h8 : 8 ≤ q.2.1 0 s) (hi : i < q.2.1 4 s) (hx : x < q.1 1) : kLo T m q0 s (kSs s i x q) ∧ ∀ r, r ≤ 13 ∨ r = 18 → (kSs s i x q).2.1 r s = q.2.1 r s := by
  obtain ⟨h1, h2, ⟨h3, h4, h5⟩, h6, h7⟩ := h
  have hI := h1.2.2.1 s h4 h5
  have hki := h1.2.2.2.1
  have hpj := h1.2.2.2.2
  have hi7 : i < q.2.1 7 s := by have := hI.2.2.2.2.2.1; omega
  have hk := hki s i h4 h5 hi
  have hj := hpj s i h4 h5 hi7
  have hQ : ∀ r j, (kSs s i x q).2.1 r j = if r = 30 ∧ j = q.2.1 6 s + i then x + 1 else if r = 20 ∧ j = q.2.2 0 s i then x + 1 else q.2.1 r j := fun r j => kSs_Q
  have hX : ∀ r s' j, (kSs s i x q).2.2 r s' j = if r = 1 ∧ s' = s ∧ j = i then x + 1 else q.2.2 r s' j := fun r s' j => kSs_X
  have hXo : ∀ r s' j, r ≠ 1 ∨ s' ≠ s ∨ j ≠ i → (kSs s i x q).2.2 r s' j = q.2.2 r s' j := fun r s' j hn => by rw [hX, if_neg (by omega)]
  have f1 : ∀ r s', r ≤ 13 ∨ r = 18 → (kSs s i x q).2.1 r s' = q.2.1 r s' := fun r s' hr => by rw [hQ, if_neg (by omega), if_neg (by omega)]
  have c1 : (kSs s i x q).1 = q.1 := rfl
  refine ⟨⟨kIv_one s h1 h4 ?_ ?_ ?_ ?_ ?_ ?_ ?_ ?_, ?_, ⟨h3, h4, h5⟩, ?_, ?_⟩, fun r hr => f1 r s hr⟩
  · rw [c1]; exact h1.1.2
  · rw [c1]; exact Nat.le_refl _
  · intro s' a b; rw [c1] at b; omega
  · intro r s' a b; exact f1 r s' (by omega)
  · intro s' a b c
    refine ⟨⟨Nat.le_refl _, Nat.le_refl _, Nat.le_refl _, Nat.le_refl _⟩, fun r hr => f1 r s' hr, fun r j => by rw [hX, if_neg (by omega)], fun r j hj2 g1 g2 => ?_, fun r j hj2 g1 g2 => ?_, fun j _ => by rw [hQ, if_neg (by omega), if_neg (by omega)]⟩
    · rw [hQ, if_neg (by omega), if_neg]
      rintro ⟨_, e⟩
      have k1 := (hki s' j a b hj2).1.2.1
      rw [e, hk.1.2.1] at k1
      exact c k1.symm
    · rw [hQ, if_neg, if_neg (by omega)]
      rintro ⟨_, e⟩
      have k1 := (hpj s' j a b hj2).1.1
      rw [e, hj.1.1] at k1
      exact c k1.symm
  · intro _
    obtain ⟨a1, a2, a3, a4, a5, a6, a7, a8⟩ := hI
    unfold kIs
    rw [f1 0 s (by omega), f1 1 s (by omega), f1 4 s (by omega), f1 6 s (by omega), f1 7 s (by omega), f1 8 s (by omega), f1 9 s (by omega), f1 13 s (by omega), c1, hXo 0 s 0 (by omega)]
    refine ⟨a1, ?_, a3, a4, by omega, a6, a7, a8⟩
    rcases a2 with a2 | ⟨b1, b2, b3, b4, b5⟩
    · exact .inl a2
    · exact .inr ⟨b1, b2, b3, b4, kPo_sm (Nat.le_refl _) (fun j _ => by rw [hQ, if_neg (by omega), if_neg (by omega)]) b5⟩
  · intro j _ hj2
    rw [f1 4 s (by omega)] at hj2
    have hkj := hki s j h4 h5 hj2
    obtain ⟨⟨a1, a2, a3⟩, ⟨a4, a5, a6⟩, a7, a8, a9, bb⟩ := hkj
    have hne : j ≠ i → q.2.2 0 s j ≠ q.2.2 0 s i := by
      intro hn e
      rw [e, hk.1.2.2] at a3
      exact hn a3.symm
    unfold kIi
    rw [f1 4 s (by omega), f1 0 s (by omega), c1, hXo 0 s j (by omega), hXo 2 s j (by omega), hXo 3 s j (by omega), hXo 4 s j (by omega), hXo 0 s (j + 1) (by omega)]
    have o : ∀ r, r ≠ 20 → r ≠ 30 → (kSs s i x q).2.1 r (q.2.2 0 s j) = q.2.1 r (q.2.2 0 s j) := fun r g1 g2 => by rw [hQ, if_neg (by omega), if_neg (by omega)]
    rw [o 24 (by omega) (by omega), o 25 (by omega) (by omega), o 21 (by omega) (by omega), o 22 (by omega) (by omega), o 23 (by omega) (by omega)]
    refine ⟨⟨a1, a2, a3⟩, ⟨?_, a5, a6⟩, a7, ?_, a9, ?_⟩
    · by_cases e : j = i
      · subst e
        rw [hQ, if_neg (by omega), if_pos ⟨rfl, rfl⟩, hX, if_pos ⟨rfl, rfl, rfl⟩]
      · rw [hQ, if_neg (by omega), if_neg (fun g => hne e g.2), hX, if_neg (by omega)]
        exact a4
    · rw [hX]
      split
      · omega
      · exact a8
    · rcases bb with bb | ⟨b1, b2, b3, b4, b5⟩
      · exact .inl bb
      · exact .inr ⟨b1, b2, b3, b4, kPo_sm (Nat.le_refl _) (fun j _ => by rw [hQ, if_neg (by omega), if_neg (by omega)]) b5⟩
  · intro j _ hj2
    rw [f1 7 s (by omega)] at hj2
    obtain ⟨⟨a1, a2⟩, a3, a4⟩ := hpj s j h4 h5 hj2
    unfold kIj
    rw [f1 6 s (by omega), f1 4 s (by omega), hXo 2 s j (by omega), hXo 4 s j (by omega)]
    have o : ∀ r, r ≠ 20 → r ≠ 30 → (kSs s i x q).2.1 r (q.2.1 6 s + j) = q.2.1 r (q.2.1 6 s + j) := fun r g1 g2 => by rw [hQ, if_neg (by omega), if_neg (by omega)]
    rw [o 34 (by omega) (by omega), o 35 (by omega) (by omega), o 31 (by omega) (by omega)]
    refine ⟨⟨a1, a2⟩, ?_, a4⟩
    by_cases e : j = i
    · subst e
      rw [hQ, if_pos ⟨rfl, rfl⟩, if_pos hi, hX, if_pos ⟨rfl, rfl, rfl⟩]
    · rw [hQ, if_neg (by omega), if_neg (by omega), a3, hXo 1 s j (by omega)]
  · refine kFm_up h2 (fun k _ => by rw [c1]; exact Nat.le_refl _) (fun r j hb => ?_) (fun r s' j hs' => by rw [hX, if_neg (by omega)])
    have hk0 := h6 i hi
    rcases kBn_cs hb with hb | hb | hb | hb | hb | hb
    · exact f1 r j hb.1
    · rw [hQ, if_neg (by omega), if_neg (by omega)]
    · rw [hQ, if_neg (by omega), if_neg (by omega)]
    · rw [hQ, if_neg (by omega), if_neg (by omega)]
    · rw [hQ, if_neg (by omega), if_neg (by omega)]
    · rw [hQ, if_neg (by omega), if_neg (by omega)]
  · intro j hj2
    rw [f1 4 s (by omega)] at hj2
    rw [hX, if_neg (by omega)]
    exact h6 j hj2
  · rw [f1 6 s (by omega)]; exact h7
/-- a new array or map, and its one kid -/
theorem kLo_ar {k : Nat} (h : kIv T m q) (hn : q.1 1 + 1 ≤ 6 + q.1 0) (hk : k = 6 ∨ k = 7) : kLo T m q (q.1 1) (kAk (q.1 1) (kSh k q)) ∧ (kAk (q.1 1) (kSh k q)).2.1 0 (q.1 1) = k ∧ (kAk (q.1 1) (kSh k q)).2.1 4 (q.1 1) = 1 ∧ (kAk (q.1 1) (kSh k q)).2.2 0 (q.1 1) 0 = q.1 2 := by
  have ha := h.1
  have s4 : (kSh k q).2.1 4 (q.1 1) = 0 := by rw [kSh_Q, if_pos rfl, if_neg (by omega), if_pos (by omega)]
  have hr : ∀ r s', s' ≠ q.1 1 → (kSh k q).2.1 r s' = q.2.1 r s' := fun r s' hs => by rw [kSh_Q, if_neg hs]
  have ho : ∀ r s', 14 ≤ r → r ≠ 18 → (kSh k q).2.1 r s' = q.2.1 r s' := by
    intro r s' a b
    rw [kSh_Q]
    split
    · repeat' rw [if_neg (by omega)]
    · rfl
  have x0 : (kAk (q.1 1) (kSh k q)).2.2 0 (q.1 1) 0 = q.1 2 := by
    have := kAk_X0 (s := q.1 1) (q := kSh k q)
    rw [s4] at this
    exact this
  have xz : ∀ r, 0 < r ∧ r ≤ 3 → (kAk (q.1 1) (kSh k q)).2.2 r (q.1 1) 0 = 0 := by
    intro r hr
    have := kAk_Xz (s := q.1 1) (q := kSh k q) hr
    rw [s4] at this
    exact this
  have r4 : (kAk (q.1 1) (kSh k q)).2.1 4 (q.1 1) = 1 := by rw [kAk_4, s4]
  have r13 : (kAk (q.1 1) (kSh k q)).2.1 13 (q.1 1) = q.1 2 + 1 := by rw [kAk_13, s4, if_pos rfl]; rfl
  have r0 : (kAk (q.1 1) (kSh k q)).2.1 0 (q.1 1) = k := by rw [kAk_r (by omega) (by omega), kSh_Q, if_pos rfl, if_pos rfl]
  have rz : ∀ r, r = 1 ∨ r = 7 ∨ r = 8 ∨ r = 18 → (kAk (q.1 1) (kSh k q)).2.1 r (q.1 1) = 0 := by
    intro r hr
    rw [kAk_r (by omega) (by omega), kSh_Q, if_pos rfl, if_neg (by omega), if_pos (by omega)]
  have r6 : (kAk (q.1 1) (kSh k q)).2.1 6 (q.1 1) = q.1 3 := by
    rw [kAk_r (by omega) (by omega), kSh_Q, if_pos rfl, if_neg (by omega), if_neg (by omega), if_pos rfl]
  have f1 : ∀ r s', r ≤ 13 ∨ r = 18 → s' ≠ q.1 1 → (kAk (q.1 1) (kSh k q)).2.1 r s' = q.2.1 r s' := fun r s' a b => by rw [kAk_r a (.inl b), hr r s' b]
  have fk : ∀ r j, 20 ≤ r → r ≤ 25 → j < q.1 2 → (kAk (q.1 1) (kSh k q)).2.1 r j = q.2.1 r j := fun r j a b c => by rw [kAk_k (q := kSh k q) a b c (.inr (.inl s4)), ho r j (by omega) (by omega)]
  have fo : ∀ r j, r = 15 ∨ r = 27 ∨ r = 16 ∨ r = 17 ∨ r = 19 ∨ 30 ≤ r → (kAk (q.1 1) (kSh k q)).2.1 r j = q.2.1 r j := fun r j a => by rw [kAk_o a, ho r j (by omega) (by omega)]
  have fX : ∀ r s' j, s' ≠ q.1 1 → (kAk (q.1 1) (kSh k q)).2.2 r s' j = q.2.2 r s' j := fun r s' j a => by rw [kAk_Xo (.inl a)]; rfl
  have c1 : (kAk (q.1 1) (kSh k q)).1 1 = q.1 1 + 1 := rfl
  have c2 : (kAk (q.1 1) (kSh k q)).1 2 = q.1 2 + 1 := rfl
  have c3 : (kAk (q.1 1) (kSh k q)).1 3 = q.1 3 := rfl
  have hp : ∀ s', 6 ≤ s' → s' < q.1 1 → q.2.1 6 s' + q.2.1 7 s' ≤ q.1 3 := fun s' h1 h2 => (h.2.2.1 s' h1 h2).2.2.2.1
  have hki := h.2.2.2.1
  have n24 : (kAk (q.1 1) (kSh k q)).2.1 24 (q.1 2) = q.1 1 := kAk_24 (s := q.1 1) (q := kSh k q)
  have n25 : (kAk (q.1 1) (kSh k q)).2.1 25 (q.1 2) = 0 := by
    have := kAk_25 (s := q.1 1) (q := kSh k q)
    rw [s4] at this
    exact this
  have nn : ∀ r, r = 20 ∨ r = 21 ∨ r = 22 ∨ r = 23 → (kAk (q.1 1) (kSh k q)).2.1 r (q.1 2) = 0 := fun r hr => kAk_n (s := q.1 1) (q := kSh k q) hr
  refine ⟨⟨kIv_one (q.1 1) h ha.1 ?_ ?_ ?_ ?_ ?_ ?_ ?_ ?_, ?_, ⟨Nat.le_refl _, ha.1, by omega⟩, ?_, ?_⟩, r0, r4, x0⟩
  · rw [c1]; exact ⟨hn, ha.2.2⟩
  · omega
  · intro s' a b; omega
  · intro r s' a b; exact f1 r s' (by omega) (by omega)
  · intro s' a b c
    exact ⟨⟨by omega, by omega, by omega, Nat.le_refl _⟩, fun r hr => f1 r s' hr c, fun r j => fX r s' j c, fun r j hj g1 g2 => fk r _ g1 g2 (hki s' j a b hj).1.1, fun r j hj g1 g2 => fo r _ (by omega), fun j _ => fo 40 j (by omega)⟩
  · intro _
    unfold kIs
    rw [r0, rz 1 (by omega), r4, r13, r6, rz 7 (by omega), rz 8 (by omega), rz 18 (by omega), c3, x0, xz 1 (by omega)]
    exact ⟨by omega, .inl ⟨by omega, rfl⟩, by rw [if_neg (by omega)], by omega, fun _ => ⟨by omega, rfl, by rw [if_neg (by omega)]⟩, by omega, by omega, by omega⟩
  · intro j _ hj
    rw [r4] at hj
    have e : j = 0 := by omega
    subst e
    unfold kIi
    rw [x0, xz 1 (by omega), xz 2 (by omega), xz 3 (by omega), n24, n25, nn 20 (by omega), nn 21 (by omega), nn 22 (by omega), nn 23 (by omega), r4, r0, c2, if_neg (by omega)]
    exact ⟨⟨by omega, rfl, rfl⟩, ⟨rfl, rfl, rfl⟩, rfl, by omega, by omega, .inl ⟨by omega, rfl⟩⟩
  · intro j _ hj
    rw [rz 7 (by omega)] at hj
    omega
  · refine kFm_up (kFm_refl q) (fun k' _ => ?_) (fun r j hb => ?_) (fun r s' j hs' => fX r s' j (by omega))
    · have e : (kAk (q.1 1) (kSh k q)).1 k' = if k' = 2 then q.1 2 + 1 else if k' = 1 then q.1 1 + 1 else q.1 k' := rfl
      rw [e]
      split
      · rename_i e; subst e; omega
      · split
        · rename_i e; subst e; omega
        · exact Nat.le_refl _
    · rcases kBn_cs hb with hb | hb | hb | hb | hb | hb
      · exact f1 r j hb.1 (by omega)
      · exact fk r j hb.1.1 hb.1.2 hb.2
      · exact fo r j (by omega)
      · exact fo r j (by omega)
      · exact fo r j (by omega)
      · exact fo r j (by omega)
  · intro j hj
    rw [r4] at hj
    have e : j = 0 := by omega
    subst e
    rw [x0]; exact Nat.le_refl _
  · rw [r6]; exact Nat.le_refl _
theorem kLo_si (h : kLo T m q0 s q) (hk : q.2.1 0 s = 6 ∨ q.2.1 0 s = 7) (h1' : q.2.1 4 s = 1) (hx : x < q.1 1) : kLo T m q0 s (kSi s x q) := by
  obtain ⟨h1, h2, ⟨h3, h4, h5⟩, h6, h7⟩ := h
  have hI := h1.2.2.1 s h4 h5
  have hki := h1.2.2.2.1
  have hk0 := hki s 0 h4 h5 (by omega)
  have hQ : ∀ r j, (kSi s x q).2.1 r j = if r = 18 ∧ j = s then x + 1 else if r = 20 ∧ j = q.2.2 0 s 0 then x + 1 else q.2.1 r j := fun r j => kSi_Q
  have hX : ∀ r s' j, (kSi s x q).2.2 r s' j = if r = 1 ∧ s' = s ∧ j = 0 then x + 1 else q.2.2 r s' j := fun r s' j => kSi_X
  have hXo : ∀ r s' j, r ≠ 1 ∨ s' ≠ s ∨ j ≠ 0 → (kSi s x q).2.2 r s' j = q.2.2 r s' j := fun r s' j hn => by rw [hX, if_neg (by omega)]
  have hX1 : (kSi s x q).2.2 1 s 0 = x + 1 := by rw [hX, if_pos ⟨rfl, rfl, rfl⟩]
  have f1 : ∀ r s', r ≤ 13 ∨ r = 18 → (r ≠ 18 ∨ s' ≠ s) → (kSi s x q).2.1 r s' = q.2.1 r s' := fun r s' hr hn => by rw [hQ, if_neg (by omega), if_neg (by omega)]
  have fo : ∀ r j, 14 ≤ r → r ≠ 18 → (r ≠ 20 ∨ j ≠ q.2.2 0 s 0) → (kSi s x q).2.1 r j = q.2.1 r j := fun r j a b c => by rw [hQ, if_neg (by omega), if_neg (by omega)]
  have c1 : (kSi s x q).1 = q.1 := rfl
  refine ⟨kIv_one s h1 h4 ?_ ?_ ?_ ?_ ?_ ?_ ?_ ?_, ?_, ⟨h3, h4, h5⟩, ?_, ?_⟩
  · rw [c1]; exact h1.1.2
  · rw [c1]; exact Nat.le_refl _
  · intro s' a b; rw [c1] at b; omega
  · intro r s' a b; exact f1 r s' (by omega) (by omega)
  · intro s' a b c
    refine ⟨⟨Nat.le_refl _, Nat.le_refl _, Nat.le_refl _, Nat.le_refl _⟩, fun r hr => f1 r s' hr (.inr c), fun r j => by rw [hX, if_neg (by omega)], fun r j hj2 g1 g2 => ?_, fun r j hj2 g1 g2 => fo r _ (by omega) (by omega) (by omega), fun j _ => fo 40 j (by omega) (by omega) (by omega)⟩
    refine fo r _ (by omega) (by omega) (.inr (fun e => ?_))
    have k1 := (hki s' j a b hj2).1.2.1
    rw [e, hk0.1.2.1] at k1
    exact c k1.symm
  · intro _
    obtain ⟨a1, a2, a3, a4, a5, a6, a7, a8⟩ := hI
    have r18 : (kSi s x q).2.1 18 s = x + 1 := by rw [hQ, if_pos ⟨rfl, rfl⟩]
    unfold kIs
    rw [f1 0 s (by omega) (by omega), f1 1 s (by omega) (by omega), f1 4 s (by omega) (by omega), f1 6 s (by omega) (by omega), f1 7 s (by omega) (by omega), f1 8 s (by omega) (by omega), f1 13 s (by omega) (by omega), c1, hXo 0 s 0 (by omega), hX1, r18, h1']
    have b5 := a5 hk
    refine ⟨a1, ?_, by rw [h1'] at a3; exact a3, a4, fun _ => ⟨Nat.le_refl _, b5.2.1, by rw [if_neg (by omega)]⟩, by omega, a7, a8⟩
    rcases a2 with a2 | a2
    · exact .inl a2
    · omega
  · intro j _ hj2
    rw [f1 4 s (by omega) (by omega), h1'] at hj2
    have e : j = 0 := by omega
    subst e
    obtain ⟨⟨a1, a2, a3⟩, ⟨a4, a5, a6⟩, a7, a8, a9, bb⟩ := hk0
    have r20 : (kSi s x q).2.1 20 (q.2.2 0 s 0) = x + 1 := by rw [hQ, if_neg (by omega), if_pos ⟨rfl, rfl⟩]
    unfold kIi
    rw [hXo 0 s 0 (by omega), hX1, hXo 2 s 0 (by omega), hXo 3 s 0 (by omega), hXo 0 s (0 + 1) (by omega), hXo 4 s 0 (by omega), r20, fo 24 _ (by omega) (by omega) (by omega), fo 25 _ (by omega) (by omega) (by omega), fo 21 _ (by omega) (by omega) (by omega), fo 22 _ (by omega) (by omega) (by omega), fo 23 _ (by omega) (by omega) (by omega), f1 4 s (by omega) (by omega), f1 0 s (by omega) (by omega), c1]
    refine ⟨⟨a1, a2, a3⟩, ⟨rfl, a5, a6⟩, a7, by omega, a9, ?_⟩
    rcases bb with bb | bb
    · exact .inl bb
    · omega
  · intro j _ hj2
    rw [f1 7 s (by omega) (by omega), (hI.2.2.2.2.1 hk).2.1] at hj2
    omega
  · refine kFm_up h2 (fun k _ => by rw [c1]; exact Nat.le_refl _) (fun r j hb => ?_) (fun r s' j hs' => by rw [hX, if_neg (by omega)])
    have hk2 := h6 0 (by omega)
    rcases kBn_cs hb with hb | hb | hb | hb | hb | hb
    · exact f1 r j hb.1 (by omega)
    · exact fo r j (by omega) (by omega) (by omega)
    · exact fo r j (by omega) (by omega) (by omega)
    · exact fo r j (by omega) (by omega) (by omega)
    · exact fo r j (by omega) (by omega) (by omega)
    · exact fo r j (by omega) (by omega) (by omega)
  · intro j hj2
    rw [f1 4 s (by omega) (by omega)] at hj2
    rw [hX, if_neg (by omega)]
    exact h6 j hj2
  · rw [f1 6 s (by omega) (by omega)]; exact h7
/-- a step that touches one row 8 -/
theorem kLo_8 {v : Nat} (h : kLo T m q0 s q) (hv : v ≤ 65) : kLo T m q0 s (kQ q 8 s v) := by
  obtain ⟨h1, h2, ⟨h3, h4, h5⟩, h6, h7⟩ := h
  have hQ : ∀ r j, (kQ q 8 s v).2.1 r j = if r = 8 ∧ j = s then v else q.2.1 r j := fun r j => kQ_Q _ _ _ _ _ _
  have f1 : ∀ r s', (r ≠ 8 ∨ s' ≠ s) → (kQ q 8 s v).2.1 r s' = q.2.1 r s' := fun r s' hr => by rw [hQ, if_neg (by omega)]
  refine ⟨kIv_one s h1 h4 h1.1.2 (Nat.le_refl _) (fun s' a b => by rw [kQ_1] at b; omega) (fun r s' a b => f1 r s' (by omega)) ?_ ?_ ?_ ?_, ?_, ⟨h3, h4, h5⟩, ?_, ?_⟩
  · intro s' a b c
    exact ⟨⟨Nat.le_refl _, Nat.le_refl _, Nat.le_refl _, Nat.le_refl _⟩, fun r hr => f1 r s' (.inr c), fun r j => rfl, fun r j hj2 g1 g2 => f1 r _ (by omega), fun r j hj2 g1 g2 => f1 r _ (by omega), fun j _ => f1 40 j (by omega)⟩
  · intro _
    obtain ⟨a1, a2, a3, a4, a5, a6, a7, a8⟩ := h1.2.2.1 s h4 h5
    unfold kIs
    rw [f1 0 s (by omega), f1 1 s (by omega), f1 4 s (by omega), f1 6 s (by omega), f1 7 s (by omega), f1 9 s (by omega), f1 13 s (by omega), f1 18 s (by omega), show (kQ q 8 s v).2.1 8 s = v by rw [hQ, if_pos ⟨rfl, rfl⟩], kQ_X, kQ_1]
    refine ⟨a1, ?_, a3, a4, a5, a6, hv, a8⟩
    rcases a2 with a2 | ⟨b1, b2, b3, b4, b5⟩
    · exact .inl a2
    · exact .inr ⟨b1, b2, b3, b4, kPo_sm (Nat.le_refl _) (fun j _ => f1 40 j (by omega)) b5⟩
  · intro j _ hj2
    rw [f1 4 s (by omega)] at hj2
    obtain ⟨⟨a1, a2, a3⟩, ⟨a4, a5, a6⟩, a7, a8, a9, bb⟩ := h1.2.2.2.1 s j h4 h5 hj2
    unfold kIi
    rw [kQ_X, f1 24 _ (by omega), f1 25 _ (by omega), f1 20 _ (by omega), f1 21 _ (by omega), f1 22 _ (by omega), f1 23 _ (by omega), f1 4 s (by omega), f1 0 s (by omega)]
    refine ⟨⟨a1, a2, a3⟩, ⟨a4, a5, a6⟩, a7, a8, a9, ?_⟩
    rcases bb with bb | ⟨b1, b2, b3, b4, b5⟩
    · exact .inl bb
    · exact .inr ⟨b1, b2, b3, b4, kPo_sm (Nat.le_refl _) (fun j _ => f1 40 j (by omega)) b5⟩
  · intro j _ hj2
    rw [f1 7 s (by omega)] at hj2
    have hj := h1.2.2.2.2 s j h4 h5 hj2
    unfold kIj
    rw [kQ_X, f1 6 s (by omega), f1 34 _ (by omega), f1 35 _ (by omega), f1 30 _ (by omega), f1 31 _ (by omega), f1 4 s (by omega)]
    exact hj
  · exact kFm_up h2 (fun k _ => Nat.le_refl _) (fun r j hb => by
      rcases kBn_cs hb with hb | hb | hb | hb | hb | hb
      · exact f1 r j (by omega)
      · exact f1 r j (by omega)
      · exact f1 r j (by omega)
      · exact f1 r j (by omega)
      · exact f1 r j (by omega)
      · exact f1 r j (by omega)) (fun r s' j hs' => rfl)
  · intro j hj2
    rw [f1 4 s (by omega)] at hj2
    exact h6 j hj2
  · rw [f1 6 s (by omega)]; exact h7
/-- a field is done -/
theorem kFd_Q {i r j : Nat} (h : r ≤ 13 ∨ r = 18 ∨ 20 ≤ r ∧ r ≤ 25 ∨ 30 ≤ r) : (kFd T s i x dv q).2.1 r j = q.2.1 r j := by
  unfold kFd
  simp only
  split
  · rw [kC_Q, kQ_Q, kQ_Q, if_neg (by omega), if_neg (by omega)]
  · rw [kC_Q, kC_Q, kQ_Q, kQ_Q, kQ_Q, kC_Q, kQ_Q, kQ_Q, if_neg (by omega), if_neg (by omega), if_neg (by omega), if_neg (by omega), if_neg (by omega)]
theorem kFd_o {i r j : Nat} (h1 : r = 15 ∨ r = 27 → j < q.1 4) (h2 : r = 16 ∨ r = 17 ∨ r = 19 → j < q.1 5) : (kFd T s i x dv q).2.1 r j = q.2.1 r j := by
  unfold kFd
  simp only
  split
  · rw [kC_Q, kQ_Q, kQ_Q, if_neg (by omega), if_neg (by omega)]
  · rw [kC_Q, kC_Q, kQ_Q, kQ_Q, kQ_Q, kC_Q, kQ_Q, kQ_Q, if_neg (by omega), if_neg (by omega), if_neg (by omega), if_neg (by omega), if_neg (by omega)]
theorem kFd_X {i : Nat} : (kFd T s i x dv q).2.2 = q.2.2 := by
  unfold kFd
  simp only
  split <;> rfl
theorem kFd_1 {i k : Nat} : (kFd T s i x dv q).1 k = if k = 4 then q.1 4 + 1 else if k = 5 ∧ dv ≠ 0 then q.1 5 + 1 else if k = 7 ∧ dv ≠ 0 then q.1 7 + 2 * kWv T (dv - 1) else q.1 k := by
  unfold kFd
  simp only
  by_cases h : dv = 0
  · rw [if_pos h, kC_1]
    by_cases h4 : k = 4
    · rw [if_pos h4, if_pos h4]
    · rw [if_neg h4, if_neg h4, if_neg (fun e => e.2 h), if_neg (fun e => e.2 h)]; rfl
  · rw [if_neg h, kC_1, kC_1]
    show (if k = 7 then _ else if k = 5 then _ else (if k = 4 then _ else q.1 k)) = _
    by_cases h4 : k = 4
    · rw [if_neg (by omega), if_neg (by omega), if_pos h4, if_pos h4]
    · rw [if_neg h4, if_neg h4]
      by_cases h5 : k = 5
      · rw [if_neg (by omega), if_pos h5, if_pos ⟨h5, h⟩]
      · by_cases h7 : k = 7
        · rw [if_pos h7, if_neg (by omega), if_pos ⟨h7, h⟩]
        · rw [if_neg h7, if_neg h5, if_neg (by omega), if_neg (by omega)]
theorem kLo_fd {i : Nat} (h : kLo T m q0 s q) : kLo T m q0 s (kFd T s i x dv q) := by
  obtain ⟨h1, h2, ⟨h3, h4, h5⟩, h6, h7⟩ := h
  have c : ∀ k, k ≠ 4 → k ≠ 5 → k ≠ 7 → (kFd T s i x dv q).1 k = q.1 k := fun k a b d => by rw [kFd_1, if_neg a, if_neg (by omega), if_neg (by omega)]
  have f1 : ∀ r j, r ≤ 13 ∨ r = 18 ∨ 20 ≤ r ∧ r ≤ 25 ∨ 30 ≤ r → (kFd T s i x dv q).2.1 r j = q.2.1 r j := fun r j hr => kFd_Q hr
  have hsm : ∀ s', kSm q (kFd T s i x dv q) s' := fun s' => ⟨⟨by rw [c 1 (by omega) (by omega) (by omega)]; exact Nat.le_refl _, by rw [c 2 (by omega) (by omega) (by omega)]; exact Nat.le_refl _, by rw [c 3 (by omega) (by omega) (by omega)]; exact Nat.le_refl _, by rw [c 6 (by omega) (by omega) (by omega)]; exact Nat.le_refl _⟩, fun r hr => f1 r s' (by omega), fun r j => by rw [kFd_X], fun r j hj2 g1 g2 => f1 r _ (by omega), fun r j hj2 g1 g2 => f1 r _ (by omega), fun j _ => f1 40 j (by omega)⟩
  have e1 := c 1 (by omega) (by omega) (by omega)
  have e0 := c 0 (by omega) (by omega) (by omega)
  refine ⟨kIv_one s h1 h4 (by rw [e1, e0]; exact h1.1.2) (by omega) (fun s' a b => by omega) (fun r s' a b => f1 r s' (by omega)) (fun s' _ _ _ => hsm s') (fun _ => kIs_sm (hsm s) (h1.2.2.1 s h4 h5)) (fun j _ hj => ?_) (fun j _ hj => ?_), ?_, ⟨h3, h4, by omega⟩, ?_, ?_⟩
  · rw [f1 4 s (by omega)] at hj
    exact kIi_sm (hsm s) hj (h1.2.2.2.1 s j h4 h5 hj)
  · rw [f1 7 s (by omega)] at hj
    exact kIj_sm (hsm s) hj (h1.2.2.2.2 s j h4 h5 hj)
  · refine kFm_up h2 (fun k _ => ?_) (fun r j hb => ?_) (fun r s' j hs' => by rw [kFd_X])
    · rw [kFd_1]
      repeat' split
      · rename_i e; subst e; omega
      · rename_i e; rw [e.1]; omega
      · rename_i e; rw [e.1]; omega
      · exact Nat.le_refl _
    · have g4 := h2.1 4 (by omega)
      have g5 := h2.1 5 (by omega)
      rcases kBn_cs hb with hb | hb | hb | hb | hb | hb
      · exact f1 r j (by omega)
      · exact f1 r j (by omega)
      · exact f1 r j (by omega)
      · exact kFd_o (fun _ => by omega) (fun e => by omega)
      · exact kFd_o (fun e => by omega) (fun _ => by omega)
      · exact f1 r j (by omega)
  · intro j hj
    rw [f1 4 s (by omega)] at hj
    rw [kFd_X]
    exact h6 j hj
  · rw [f1 6 s (by omega)]; exact h7
end
