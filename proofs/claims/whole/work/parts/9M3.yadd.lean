/-! one file more: what is kept of it -/
section
variable {c c' : Nat} {S : yS} {s s0 : aT} {L L' : List yFi} {f : yFi}
theorem yAg {n : Nat} (h : ∀ i, i < n → L'.getD i yF0 = L.getD i yF0) : ∀ m, m ≤ n → yB0 L' m = yB0 L m ∧ yP0 L' m = yP0 L m ∧ yQ0 L' m = yQ0 L m ∧ (∀ x, yVc L' x m = yVc L x m) ∧ (∀ x, yRs L' x m = yRs L x m)
  | 0, _ => ⟨rfl, rfl, rfl, fun _ => rfl, fun _ => rfl⟩
  | m + 1, hm => by
    obtain ⟨h1, h2, h3, h4, h5⟩ := yAg h m (by omega)
    have e := h m (by omega)
    unfold yB0 yP0 yQ0 yVc yRs
    rw [e, h1, h2, h3]
    exact ⟨rfl, rfl, rfl, fun x => by rw [h4 x], fun x => by rw [h5 x]⟩
theorem gD_len : (L ++ [f]).length = L.length + 1 := by simp
theorem yAg_a : ∀ m, m ≤ L.length → yB0 (L ++ [f]) m = yB0 L m ∧ yP0 (L ++ [f]) m = yP0 L m ∧ yQ0 (L ++ [f]) m = yQ0 L m ∧ (∀ x, yVc (L ++ [f]) x m = yVc L x m) ∧ (∀ x, yRs (L ++ [f]) x m = yRs L x m) := yAg (fun i hi => gD_a hi)
theorem yLw_add (hL : yLw L) (h40 : L.length < 40) (hf : yOk f) (hw : ∀ i, i < L.length → yAw (L.getD i yF0) f.2.2.1 (yBk f.2.2.2.1)) (hv : f.2.2.2.2.1 = 0 → yVk f.2.2.2.2.2 ∧ f.2.2.2.1 = f.2.2.2.2.2.length ∧ f.2.1 = yVc L f.1 L.length) (hr : f.2.2.2.2.1 ≠ 0 → kBt f.2.2.2.2.2 ∧ f.2.2.2.1 = yWa (f.2.2.2.2.1 - 1) f.2.2.2.2.2.length ∧ ∃ j, j < L.length ∧ yIv (L.getD j yF0) f.1 ∧ (L.getD j yF0).2.1 = f.2.1 ∧ yRw f.2.2.2.2.2 (yQ (L.getD j yF0).2.2.2.2.2) (yX (L.getD j yF0).2.2.2.2.2) (f.2.2.2.2.1 - 1)) : yLw (L ++ [f]) := by
  have hlen := gD_len (L := L) (f := f)
  refine ⟨yLs_add hL.1 h40 hf, fun i j hi hj hij => ?_, fun i hi h0 => ?_, fun i hi h0 => ?_⟩
  · by_cases e : i = L.length
    · subst e
      have := hw j (by omega)
      rw [gD_b, gD_a (by omega)]
      unfold yAw at this ⊢
      omega
    · by_cases e2 : j = L.length
      · subst e2
        rw [gD_b, gD_a (by omega)]
        exact hw i (by omega)
      · rw [gD_a (by omega), gD_a (by omega)]
        exact hL.2.1 i j (by omega) (by omega) hij
  · by_cases e : i = L.length
    · subst e
      rw [gD_b] at h0 ⊢
      rw [(yAg_a L.length (Nat.le_refl _)).2.2.2.1]
      exact hv h0
    · rw [gD_a (by omega)] at h0 ⊢
      rw [(yAg_a i (by omega)).2.2.2.1]
      exact hL.2.2.1 i (by omega) h0
  · by_cases e : i = L.length
    · subst e
      rw [gD_b] at h0 ⊢
      obtain ⟨h1, h2, j, h3, h4⟩ := hr h0
      refine ⟨h1, h2, j, h3, ?_⟩
      rw [gD_a h3]
      exact h4
    · rw [gD_a (by omega)] at h0 ⊢
      obtain ⟨h1, h2, j, h3, h4⟩ := hL.2.2.2 i (by omega) h0
      refine ⟨h1, h2, j, h3, ?_⟩
      rw [gD_a (by omega)]
      exact h4
/-- a file of rows more -/
theorem lSc_row (h : lSc L s) (hf : f.2.2.2.2.1 ≠ 0) : lSc (L ++ [f]) s := by
  have hlen := gD_len (L := L) (f := f)
  obtain ⟨g1, g2, g3, g4, _⟩ := yAg_a (L := L) (f := f) L.length (Nat.le_refl _)
  have e1 : yB0 (L ++ [f]) (L ++ [f]).length = yB0 L L.length := by
    rw [hlen]
    show yB0 (L ++ [f]) L.length + (if ((L ++ [f]).getD L.length yF0).2.2.2.2.1 = 0 then _ else 0) = _
    rw [gD_b, if_neg hf, g1, Nat.add_zero]
  have e2 : yP0 (L ++ [f]) (L ++ [f]).length = yP0 L L.length := by
    rw [hlen]
    show yP0 (L ++ [f]) L.length + (if ((L ++ [f]).getD L.length yF0).2.2.2.2.1 = 0 then _ else 0) = _
    rw [gD_b, if_neg hf, g2, Nat.add_zero]
  have e3 : yQ0 (L ++ [f]) (L ++ [f]).length = yQ0 L L.length := by
    rw [hlen]
    show yQ0 (L ++ [f]) L.length + (if ((L ++ [f]).getD L.length yF0).2.2.2.2.1 = 0 then _ else 0) = _
    rw [gD_b, if_neg hf, g3, Nat.add_zero]
  obtain ⟨h1, h2, h3, h4⟩ := h
  refine ⟨by rw [e1, e2, e3]; exact h1, h2, fun x hx => ?_, fun i hi h0 => ?_⟩
  · rw [hlen]
    have e4 : yVc (L ++ [f]) x (L.length + 1) = yVc L x L.length := by
      show yVc (L ++ [f]) x L.length + (if yIv ((L ++ [f]).getD L.length yF0) x then 1 else 0) = _
      rw [gD_b, if_neg (fun e => hf e.2), g4, Nat.add_zero]
    rw [e4]
    exact h3 x hx
  · by_cases e : i = L.length
    · subst e
      rw [gD_b] at h0
      exact absurd h0 hf
    · rw [gD_a (by omega)] at h0 ⊢
      obtain ⟨k1, k2, k3, _, _⟩ := yAg_a (L := L) (f := f) i (by omega)
      rw [k1, k2, k3]
      exact h4 i (by omega) h0
/-- a version more -/
theorem Sc_keep (hL : yLw L) (h : lSc L s0) (hx : ∀ k i, 22 ≤ k → k ≤ 36 → ¬ xRg (yB0 L L.length) (yP0 L L.length) (yQ0 L L.length) k i → gI s k i = gI s0 k i) (hv : lV (yB0 L L.length) (yP0 L L.length) (yQ0 L L.length) (yQ f.2.2.2.2.2) s) (h14 : gI s 22 14 = nI (yB0 L L.length + ((yQ f.2.2.2.2.2).1 1 - 6))) (h15 : gI s 22 15 = nI (yP0 L L.length + (yQ f.2.2.2.2.2).1 3)) (h32 : gI s 32 1 = nI (yQ0 L L.length + (yQ f.2.2.2.2.2).1 6)) (h0 : f.2.2.2.2.1 = 0) (hfv : f.2.1 = yVc L f.1 L.length) (hf4 : f.1 < 4) (hf16 : f.2.1 < 16) (d : Nat) : ∃ s', fSc_keep (d + 1) (nI f.1) (nI (lo (yB0 L L.length) (yX f.2.2.2.2.2))) s = rV s' ∧ lSc (L ++ [f]) s' ∧ (∀ k i, ¬ (k = 22 ∧ (i = 11 ∨ i = 16 ∨ i = 17) ∨ 34 ≤ k ∧ k ≤ 36) → gI s' k i = gI s k i) := by
  have hlen := gD_len (L := L) (f := f)
  obtain ⟨g1, g2, g3, g4, _⟩ := yAg_a (L := L) (f := f) L.length (Nat.le_refl _)
  have e1 : yB0 (L ++ [f]) (L ++ [f]).length = yB0 L L.length + ((yQ f.2.2.2.2.2).1 1 - 6) := by
    rw [hlen]
    show yB0 (L ++ [f]) L.length + (if ((L ++ [f]).getD L.length yF0).2.2.2.2.1 = 0 then (yQ ((L ++ [f]).getD L.length yF0).2.2.2.2.2).1 1 - 6 else 0) = _
    rw [gD_b, if_pos h0, g1]
  have e2 : yP0 (L ++ [f]) (L ++ [f]).length = yP0 L L.length + (yQ f.2.2.2.2.2).1 3 := by
    rw [hlen]
    show yP0 (L ++ [f]) L.length + (if ((L ++ [f]).getD L.length yF0).2.2.2.2.1 = 0 then (yQ ((L ++ [f]).getD L.length yF0).2.2.2.2.2).1 3 else 0) = _
    rw [gD_b, if_pos h0, g2]
  have e3 : yQ0 (L ++ [f]) (L ++ [f]).length = yQ0 L L.length + (yQ f.2.2.2.2.2).1 6 := by
    rw [hlen]
    show yQ0 (L ++ [f]) L.length + (if ((L ++ [f]).getD L.length yF0).2.2.2.2.1 = 0 then (yQ ((L ++ [f]).getD L.length yF0).2.2.2.2.2).1 6 else 0) = _
    rw [gD_b, if_pos h0, g3]
  have o34 : ∀ k i, 34 ≤ k → k ≤ 36 → gI s k i = gI s0 k i := fun k i a b => hx k i (by omega) (by omega) (fun e => by unfold xRg at e; omega)
  have e11 : gI s 22 11 = nI (yB0 L L.length) := by rw [hx 22 11 (by omega) (by omega) (fun e => by unfold xRg at e; omega)]; exact h.1.1.1
  have h34 : gI s 34 f.1 = nI f.2.1 := by rw [o34 34 _ (by omega) (by omega), hfv]; exact h.2.2.1 f.1 hf4
  obtain ⟨P, p1, p2, p3⟩ := hv.2.1
  rw [h32] at p1
  have hro : yQ0 L L.length + (yQ f.2.2.2.2.2).1 6 ≤ 72704 := by omega
  have hvs := lSc_vs (s' := s) hL h hx ⟨h32, by omega, hro⟩
  -- the state
  have ek : fSc_keep (d + 1) (nI f.1) (nI (lo (yB0 L L.length) (yX f.2.2.2.2.2))) s = rV (pI (pI (pI (pI (pI (pI s 35 (16 * f.1 + f.2.1) (nI (lo (yB0 L L.length) (yX f.2.2.2.2.2)))) 36 (16 * f.1 + f.2.1) (nI (yB0 L L.length))) 34 f.1 (nI (f.2.1 + 1))) 22 11 (nI (yB0 L L.length + ((yQ f.2.2.2.2.2).1 1 - 6)))) 22 16 (nI (yP0 L L.length + (yQ f.2.2.2.2.2).1 3))) 22 17 (nI (yQ0 L L.length + (yQ f.2.2.2.2.2).1 6))) := by
    refine eSc_keep d _ _ _ _ ?_
    have hop : ∀ t : aT, fSc_open d t = rV (pI (pI (pI t 22 11 (gI t 22 14)) 22 16 (gI t 22 15)) 22 17 (gI t 32 1)) := fun t => by
      refine eSc_open d _ _ ?_
      simp only [wI_eq, gI_pI]
      rw [if_neg (by omega), if_neg (by omega), if_neg (by omega)]
      rfl
    rw [ldI_n (by omega) (by omega), h34, if_pos (show nI f.2.1 < 16 by rw [show (16 : Int32) = nI 16 from rfl, nI_ltE (by omega) (by omega)]; omega), show (16 : Int32) = nI 16 from rfl, nI_mulE, nI_addE, show f.1 * 16 + f.2.1 = 16 * f.1 + f.2.1 by omega, stI_n (by omega) (by omega), gI_pI, if_neg (by omega), e11, stI_n (by omega) (by omega), ldI_n (by omega) (by omega), gI_pI, if_neg (by omega), gI_pI, if_neg (by omega), h34, nI_add1, stI_n (by omega) (by omega), hop, cG_V]
    rw [show gI (pI (pI (pI s 35 (16 * f.1 + f.2.1) (nI (lo (yB0 L L.length) (yX f.2.2.2.2.2)))) 36 (16 * f.1 + f.2.1) (nI (yB0 L L.length))) 34 f.1 (nI (f.2.1 + 1))) 22 14 = gI s 22 14 by rw [gI_pI, if_neg (by omega), gI_pI, if_neg (by omega), gI_pI, if_neg (by omega)], show gI (pI (pI (pI s 35 (16 * f.1 + f.2.1) (nI (lo (yB0 L L.length) (yX f.2.2.2.2.2)))) 36 (16 * f.1 + f.2.1) (nI (yB0 L L.length))) 34 f.1 (nI (f.2.1 + 1))) 22 15 = gI s 22 15 by rw [gI_pI, if_neg (by omega), gI_pI, if_neg (by omega), gI_pI, if_neg (by omega)], show gI (pI (pI (pI s 35 (16 * f.1 + f.2.1) (nI (lo (yB0 L L.length) (yX f.2.2.2.2.2)))) 36 (16 * f.1 + f.2.1) (nI (yB0 L L.length))) 34 f.1 (nI (f.2.1 + 1))) 32 1 = gI s 32 1 by rw [gI_pI, if_neg (by omega), gI_pI, if_neg (by omega), gI_pI, if_neg (by omega)], h14, h15, h32]
    rfl
  refine ⟨_, ek, ?_, fun k i hk => by rw [gI_pI, if_neg (by omega), gI_pI, if_neg (by omega), gI_pI, if_neg (by omega), gI_pI, if_neg (by omega), gI_pI, if_neg (by omega), gI_pI, if_neg (by omega)]⟩
  have os : ∀ k i, ¬ (k = 22 ∧ (i = 11 ∨ i = 16 ∨ i = 17) ∨ k = 34 ∧ i = f.1 ∨ (k = 35 ∨ k = 36) ∧ i = 16 * f.1 + f.2.1) → gI (pI (pI (pI (pI (pI (pI s 35 (16 * f.1 + f.2.1) (nI (lo (yB0 L L.length) (yX f.2.2.2.2.2)))) 36 (16 * f.1 + f.2.1) (nI (yB0 L L.length))) 34 f.1 (nI (f.2.1 + 1))) 22 11 (nI (yB0 L L.length + ((yQ f.2.2.2.2.2).1 1 - 6)))) 22 16 (nI (yP0 L L.length + (yQ f.2.2.2.2.2).1 3))) 22 17 (nI (yQ0 L L.length + (yQ f.2.2.2.2.2).1 6))) k i = gI s k i := fun k i hk => by rw [gI_pI, if_neg (by omega), gI_pI, if_neg (by omega), gI_pI, if_neg (by omega), gI_pI, if_neg (by omega), gI_pI, if_neg (by omega), gI_pI, if_neg (by omega)]
  have t11 : gI (pI (pI (pI (pI (pI (pI s 35 (16 * f.1 + f.2.1) (nI (lo (yB0 L L.length) (yX f.2.2.2.2.2)))) 36 (16 * f.1 + f.2.1) (nI (yB0 L L.length))) 34 f.1 (nI (f.2.1 + 1))) 22 11 (nI (yB0 L L.length + ((yQ f.2.2.2.2.2).1 1 - 6)))) 22 16 (nI (yP0 L L.length + (yQ f.2.2.2.2.2).1 3))) 22 17 (nI (yQ0 L L.length + (yQ f.2.2.2.2.2).1 6))) 22 11 = nI (yB0 L L.length + ((yQ f.2.2.2.2.2).1 1 - 6)) := by rw [gI_pI, if_neg (by omega), gI_pI, if_neg (by omega), gI_pI, if_pos ⟨rfl, rfl⟩]
  have t16 : gI (pI (pI (pI (pI (pI (pI s 35 (16 * f.1 + f.2.1) (nI (lo (yB0 L L.length) (yX f.2.2.2.2.2)))) 36 (16 * f.1 + f.2.1) (nI (yB0 L L.length))) 34 f.1 (nI (f.2.1 + 1))) 22 11 (nI (yB0 L L.length + ((yQ f.2.2.2.2.2).1 1 - 6)))) 22 16 (nI (yP0 L L.length + (yQ f.2.2.2.2.2).1 3))) 22 17 (nI (yQ0 L L.length + (yQ f.2.2.2.2.2).1 6))) 22 16 = nI (yP0 L L.length + (yQ f.2.2.2.2.2).1 3) := by rw [gI_pI, if_neg (by omega), gI_pI, if_pos ⟨rfl, rfl⟩]
  have t17 : gI (pI (pI (pI (pI (pI (pI s 35 (16 * f.1 + f.2.1) (nI (lo (yB0 L L.length) (yX f.2.2.2.2.2)))) 36 (16 * f.1 + f.2.1) (nI (yB0 L L.length))) 34 f.1 (nI (f.2.1 + 1))) 22 11 (nI (yB0 L L.length + ((yQ f.2.2.2.2.2).1 1 - 6)))) 22 16 (nI (yP0 L L.length + (yQ f.2.2.2.2.2).1 3))) 22 17 (nI (yQ0 L L.length + (yQ f.2.2.2.2.2).1 6))) 22 17 = nI (yQ0 L L.length + (yQ f.2.2.2.2.2).1 6) := by rw [gI_pI, if_pos ⟨rfl, rfl⟩]
  have t34 : gI (pI (pI (pI (pI (pI (pI s 35 (16 * f.1 + f.2.1) (nI (lo (yB0 L L.length) (yX f.2.2.2.2.2)))) 36 (16 * f.1 + f.2.1) (nI (yB0 L L.length))) 34 f.1 (nI (f.2.1 + 1))) 22 11 (nI (yB0 L L.length + ((yQ f.2.2.2.2.2).1 1 - 6)))) 22 16 (nI (yP0 L L.length + (yQ f.2.2.2.2.2).1 3))) 22 17 (nI (yQ0 L L.length + (yQ f.2.2.2.2.2).1 6))) 34 f.1 = nI (f.2.1 + 1) := by rw [gI_pI, if_neg (by omega), gI_pI, if_neg (by omega), gI_pI, if_neg (by omega), gI_pI, if_pos ⟨rfl, rfl⟩]
  have t35 : gI (pI (pI (pI (pI (pI (pI s 35 (16 * f.1 + f.2.1) (nI (lo (yB0 L L.length) (yX f.2.2.2.2.2)))) 36 (16 * f.1 + f.2.1) (nI (yB0 L L.length))) 34 f.1 (nI (f.2.1 + 1))) 22 11 (nI (yB0 L L.length + ((yQ f.2.2.2.2.2).1 1 - 6)))) 22 16 (nI (yP0 L L.length + (yQ f.2.2.2.2.2).1 3))) 22 17 (nI (yQ0 L L.length + (yQ f.2.2.2.2.2).1 6))) 35 (16 * f.1 + f.2.1) = nI (lo (yB0 L L.length) (yX f.2.2.2.2.2)) := by rw [gI_pI, if_neg (by omega), gI_pI, if_neg (by omega), gI_pI, if_neg (by omega), gI_pI, if_neg (by omega), gI_pI, if_neg (by omega), gI_pI, if_pos ⟨rfl, rfl⟩]
  have t36 : gI (pI (pI (pI (pI (pI (pI s 35 (16 * f.1 + f.2.1) (nI (lo (yB0 L L.length) (yX f.2.2.2.2.2)))) 36 (16 * f.1 + f.2.1) (nI (yB0 L L.length))) 34 f.1 (nI (f.2.1 + 1))) 22 11 (nI (yB0 L L.length + ((yQ f.2.2.2.2.2).1 1 - 6)))) 22 16 (nI (yP0 L L.length + (yQ f.2.2.2.2.2).1 3))) 22 17 (nI (yQ0 L L.length + (yQ f.2.2.2.2.2).1 6))) 36 (16 * f.1 + f.2.1) = nI (yB0 L L.length) := by rw [gI_pI, if_neg (by omega), gI_pI, if_neg (by omega), gI_pI, if_neg (by omega), gI_pI, if_neg (by omega), gI_pI, if_pos ⟨rfl, rfl⟩]
  generalize pI (pI (pI (pI (pI (pI s 35 (16 * f.1 + f.2.1) (nI (lo (yB0 L L.length) (yX f.2.2.2.2.2)))) 36 (16 * f.1 + f.2.1) (nI (yB0 L L.length))) 34 f.1 (nI (f.2.1 + 1))) 22 11 (nI (yB0 L L.length + ((yQ f.2.2.2.2.2).1 1 - 6)))) 22 16 (nI (yP0 L L.length + (yQ f.2.2.2.2.2).1 3))) 22 17 (nI (yQ0 L L.length + (yQ f.2.2.2.2.2).1 6)) = t at *
  refine ⟨⟨⟨by rw [t11, e1], by rw [os 22 14 (by omega), h14, e1]⟩, ⟨by rw [t16, e2], by rw [os 22 15 (by omega), h15, e2]⟩, ⟨by rw [t17, e3], by rw [os 32 1 (by omega), h32, e3]⟩⟩, fun u hu => by rw [os 23 u (by omega)]; exact hvs.1 u hu, fun x hx4 => ?_, fun i hi hz => ?_⟩
  · rw [hlen]
    have e4 : yVc (L ++ [f]) x (L.length + 1) = yVc L x L.length + (if f.1 = x then 1 else 0) := by
      show yVc (L ++ [f]) x L.length + (if yIv ((L ++ [f]).getD L.length yF0) x then 1 else 0) = _
      rw [gD_b, g4]
      by_cases e : f.1 = x
      · rw [if_pos ⟨e, h0⟩, if_pos e]
      · rw [if_neg (fun h => e h.1), if_neg e]
    rw [e4]
    by_cases e : f.1 = x
    · rw [if_pos e, ← e, t34, hfv]
    · rw [if_neg e, Nat.add_zero, os 34 x (by omega), o34 34 x (by omega) (by omega)]
      exact h.2.2.1 x hx4
  · by_cases e : i = L.length
    · subst e
      rw [gD_b, g1, g2, g3]
      exact ⟨t35, t36, lV_fr (fun k i a b => os k i (by omega)) hv⟩
    · have hi2 : i < L.length := by omega
      rw [gD_a hi2] at hz ⊢
      obtain ⟨k1, k2, k3, _, _⟩ := yAg_a (L := L) (f := f) i (by omega)
      rw [k1, k2, k3]
      obtain ⟨m1, m2, m3⟩ := h.2.2.2 i hi2 hz
      have hne : ¬ 16 * (L.getD i yF0).1 + (L.getD i yF0).2.1 = 16 * f.1 + f.2.1 := fun e => by
        have b1 := (hL.1.2 i hi2).1
        have e1 : (L.getD i yF0).1 = f.1 := by omega
        have e2 : (L.getD i yF0).2.1 = f.2.1 := by omega
        have b2 := (hL.2.2.1 i hi2 hz).2.2
        have e3 : yVc L f.1 (i + 1) = yVc L f.1 i + (if yIv (L.getD i yF0) f.1 then 1 else 0) := rfl
        rw [if_pos ⟨e1, hz⟩] at e3
        have := yVc_mo (L := L) f.1 (L.length - (i + 1)) (i + 1)
        rw [show i + 1 + (L.length - (i + 1)) = L.length by omega] at this
        rw [e1] at b2
        omega
      rw [os 35 _ (by omega), os 36 _ (by omega), o34 35 _ (by omega) (by omega), o34 36 _ (by omega) (by omega)]
      exact ⟨m1, m2, lV_fr (fun k i a b => os k i (by omega)) (hvs.2 i hi2 hz)⟩
/-- the lake without its tables -/
def yLC (c : Nat) (S : yS) (s : aT) : Prop := (gI s 0 15 = S.pc ∧ gI s 0 16 = uB S.dn) ∧ (lBy 1 S.tp s ∧ lBy 3 S.pl s ∧ lBy 5 S.ou s) ∧ gI s 56 1 = zI S.pw ∧ (∃ tn, tn ≤ c ∧ lDl tn S.fs s ∧ (S.dn = false → gI s 58 6 = nI tn)) ∧ lFi (yUp S) s ∧ lDf S.fs s
theorem yLC_of (h : yLI c S s) : yLC c S s := ⟨h.1, h.2.1, h.2.2.1, h.2.2.2.1, h.2.2.2.2.1, h.2.2.2.2.2.2.1⟩
theorem yLI_of (h : yLC c S s) (h2 : lSc (yUp S) s) (h3 : lMk c s) : yLI c S s := ⟨h.1, h.2.1, h.2.2.1, h.2.2.2.1, h.2.2.2.2.1, h2, h.2.2.2.2.2, h3⟩
theorem yLC_c (hc : c ≤ c') (h : yLC c S s) : yLC c' S s := by
  obtain ⟨a, b, e, ⟨tn, t1, t2⟩, g⟩ := h
  exact ⟨a, b, e, ⟨tn, by omega, t2⟩, g⟩
/-- a change of other cells, and of the tape -/
theorem yLC_ch {tp pl ou : List Nat} {pc : Int32} {s' : aT} (hx : ∀ k i, (k = 0 ∧ i = 16 ∨ 56 ≤ k ∧ k ≤ 63) → gI s' k i = gI s k i) (h1 : lBy 1 tp s') (h2 : lBy 3 pl s') (h3 : lBy 5 ou s') (h4 : gI s' 0 15 = pc) (hl : yLC c S s) : yLC c (yMk tp pl ou pc S.dn S.pw S.fs) s' := by
  obtain ⟨⟨a1, a2⟩, _, d1, ⟨tn, e1, e2, e3⟩, f1, i1⟩ := hl
  exact ⟨⟨h4, by rw [hx 0 16 (by omega)]; exact a2⟩, ⟨h1, h2, h3⟩, by rw [hx 56 1 (by omega)]; exact d1, ⟨tn, by omega, lDl_fr (fun i _ => hx 57 i (by omega)) e2, fun hd => by rw [hx 58 6 (by omega)]; exact e3 hd⟩, lFi_fr (fun k i h1 h2 => hx k i (by omega)) f1, fun i hi j hj => by rw [hx 57 _ (by omega)]; exact i1 i hi j hj⟩
/-- a file is stored in the lake -/
theorem Lk_st (hL : yLw S.fs) (hdn : S.dn = false) (hpw : S.pw ≤ 1001) (h : yLC c S s) (hc : c + 1 < 1000000) (h23 : ∀ t, t < 6 → gI s 23 t = nI t) {P : List Nat} (hP : lBy 11 P s) (hPl : P.length ≤ 4096) {x v rw : Nat} {C : List Nat} (hx : x < 4) (hv : v < 16) (hrw : rw ≤ 4097 ∧ rw ≠ 1) (hC : C.length ≤ 4096) (hpk : ∀ b w, yPk (x, v, b, w, rw, C) = P) (d : Nat) : (ySt S x v P.length rw C = (31, S) ∧ ∃ s', fLk_storeFile (d + 14) (nI x) (nI v) (zI rw) s = rI (-31) s' ∧ (∀ k i, k ≠ 66 → gI s' k i = gI s k i)) ∨ (ySt S x v P.length rw C = (32, (S.spw 0).sdn true) ∧ ∃ s', fLk_storeFile (d + 14) (nI x) (nI v) (zI rw) s = rI (-32) s' ∧ yLC (c + 1) ((S.spw 0).sdn true) s' ∧ lSc [] s' ∧ (∀ k i, ¬ xSt k i → ¬ xLs k i → gI s' k i = gI s k i)) ∨ (ySt S x v P.length rw C = (0, (S.spw (S.pw - (yBk P.length + 1))).sfs (S.fs ++ [(x, v, yRm S.fs (yBk P.length) - 1, P.length, rw, C)])) ∧ (S.fs.length < 40 ∧ yRm S.fs (yBk P.length) ≠ 0) ∧ ∃ s', fLk_storeFile (d + 14) (nI x) (nI v) (zI rw) s = rI 0 s' ∧ yLC (c + 1) ((S.spw (S.pw - (yBk P.length + 1))).sfs (S.fs ++ [(x, v, yRm S.fs (yBk P.length) - 1, P.length, rw, C)])) s' ∧ (∀ k i, ¬ xSt k i → gI s' k i = gI s k i)) := by
  obtain ⟨⟨a1, a2⟩, ⟨b1, b2, b3⟩, d1, ⟨tn, e1, e2, e3⟩, f1, i1⟩ := h
  rw [yUp_f hdn] at f1
  have h40 := hL.1.1
  have hst := Lk_store (pw := S.pw) hL.1 (fun i hi => by
    have h1 := (yLw_dl hL hi).2
    have h2 := yBk_n (S.fs.getD i yF0).2.2.2.1
    omega) hP hPl (e3 hdn) (by omega) d1 hpw e2 f1 i1 h23 d (f := (x, v, yRm S.fs (yBk P.length) - 1, P.length, rw, C)) (fun h0 => by
    have hle := yRm_le h0
    exact ⟨⟨⟨hx, hv⟩, ⟨by show 2 ≤ yRm S.fs (yBk P.length) - 1; omega, by show yRm S.fs (yBk P.length) - 1 + yBk P.length ≤ 128; omega⟩, hPl, hrw, hC⟩, hpk _ _, rfl, rfl⟩)
  by_cases hfull : S.fs.length = 40 ∨ yRm S.fs (yBk P.length) = 0
  · rw [if_pos hfull] at hst
    refine .inl ⟨if_pos (.inr hfull), hst⟩
  · rw [if_neg hfull] at hst
    have hf2 : ¬ (4096 < P.length ∨ S.fs.length = 40 ∨ yRm S.fs (yBk P.length) = 0) := fun e => by
      rcases e with e | e
      · omega
      · exact hfull e
    by_cases hlost : S.pw ≠ 0 ∧ S.pw ≤ yBk P.length + 1
    · rw [if_pos hlost] at hst
      obtain ⟨s', r1, r2, r3, r4, r5, r6, r7, r8⟩ := hst
      have o : ∀ k i, k < 7 → ¬ (k = 0 ∧ i = 16) → gI s' k i = gI s k i := fun k i a b => r8 k i (by unfold xSt; omega) (by unfold xLs; omega)
      refine .inr (.inl ⟨by unfold ySt; rw [if_neg hf2, if_pos hlost], s', r1, ⟨⟨by rw [o 0 15 (by omega) (by omega)]; exact a1, by rw [r7]; rfl⟩, ⟨lBy_fr (fun k i hk => o k i (by omega) (by omega)) b1, lBy_fr (fun k i hk => o k i (by omega) (by omega)) b2, lBy_fr (fun k i hk => o k i (by omega) (by omega)) b3⟩, r2, ⟨tn, by omega, r3, fun e => by cases e⟩, r6, r4⟩, r5, r8⟩)
    · rw [if_neg hlost] at hst
      obtain ⟨s', r1, r2, r3, r4, r5, r6, r7⟩ := hst
      have o : ∀ k i, k < 7 → gI s' k i = gI s k i := fun k i a => r7 k i (by unfold xSt; omega)
      refine .inr (.inr ⟨by unfold ySt; rw [if_neg hf2, if_neg hlost], ⟨by omega, fun e => hfull (.inr e)⟩, s', r1, ⟨⟨by rw [o 0 15 (by omega)]; exact a1, by rw [o 0 16 (by omega)]; exact a2⟩, ⟨lBy_fr (fun k i hk => o k i (by omega)) b1, lBy_fr (fun k i hk => o k i (by omega)) b2, lBy_fr (fun k i hk => o k i (by omega)) b3⟩, r2, ⟨tn + 1, by omega, r3, fun _ => r4⟩, ?_, r6⟩, r7⟩)
      rw [yUp_f (S := (S.spw (S.pw - (yBk P.length + 1))).sfs (S.fs ++ [(x, v, yRm S.fs (yBk P.length) - 1, P.length, rw, C)])) hdn]
      exact r5
end
