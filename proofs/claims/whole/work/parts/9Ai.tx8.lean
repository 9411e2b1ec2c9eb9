/-! the lake's Text: a whole text -/
theorem pI_comm (s : aT) {k i k' i' : Nat} {v w : Int32} (h : ¬ (k = k' ∧ i = i')) : pI (pI s k i v) k' i' w = pI (pI s k' i' w) k i v := by
  refine aT_ext (fun a b => ?_) (fun _ _ => rfl) rfl
  simp only [gI_pI]
  by_cases h1 : a = k ∧ b = i
  · by_cases h2 : a = k' ∧ b = i'
    · exfalso; exact h ⟨h1.1.symm.trans h2.1, h1.2.symm.trans h2.2⟩
    · rw [if_neg h2, if_pos h1, if_pos h1]
  · by_cases h2 : a = k' ∧ b = i'
    · rw [if_pos h2, if_neg h1, if_pos h2]
    · rw [if_neg h2, if_neg h1, if_neg h1, if_neg h2]
/-- where a parse begins -/
def lP0 (s : aT) (a : Nat) (fr n : Nat) : aT := pI (pI (pI (pM0 s a) 13 12 (nI fr)) 13 13 (nI n)) 13 10 (-1)
theorem lP0_st {s : aT} {a fr n : Nat} {T : Nat → Nat → Nat} {N : Nat → Int} : pI (pI (pI (pI (pI (pI (pM0 s a) 13 12 (nI fr)) 13 13 (nI n)) 13 14 0) 13 7 0) 20 1 0) 13 10 (-1) = lJ (0, 0, 0, T, N) (lP0 s a fr n) := by
  refine aT_ext (fun k i => ?_) (fun k i => ?_) rfl
  · simp only [gI_pI]
    simp only [gI, lJ, lP0, pI, a2_ite]
    by_cases h13 : k = 13
    · subst h13
      by_cases h1 : i = 14
      · subst h1; simp [nI_0]
      · by_cases h2 : i = 7
        · subst h2; simp [nI_0]
        · simp [h1, h2]
    · by_cases h20 : k = 20
      · subst h20
        by_cases h1 : i = 1
        · subst h1; simp [nI_0]
        · simp [h1]
      · simp [h13, h20]
  · simp [gL, lJ, lP0, pI, pM0]
section
variable {B : Nat → Nat} {n fr : Nat}
theorem lP0_B {s : aT} {a : Nat} (ha : a = 2 ∨ a = 57) (hn : n ≤ 4096) (hl : fr + n ≤ alen a) (hA : ∀ i, i < n → gI s a (fr + i) = mI (B i)) (hB : ∀ i, B i < 256) : lB0 (lP0 s a fr n) B n fr := by
  refine ⟨hn, ?_, ha, hl, ?_, fun i hi => ?_, hB⟩
  · simp [lP0, gI_pI]
  · simp [lP0, gI_pI]
  · have e : gM0 (lP0 s a fr n) = a := rfl
    rw [e]
    simp only [lP0, gI_pI]
    rw [if_neg (by omega), if_neg (by omega), if_neg (by omega)]
    exact hA i hi
/-- what a parse leaves -/
def lPs (s : aT) (a fr n : Nat) (x y z : Int32) : aT := pI (pI (pI (lP0 s a fr n) 13 10 x) 13 8 y) 13 9 z
theorem Tx_parse {s : aT} {a : Nat} (d : Nat) (ha : a = 2 ∨ a = 57) (hn : n ≤ 4096) (hl : fr + n ≤ alen a) (hA : ∀ i, i < n → gI s a (fr + i) = mI (B i)) (hB : ∀ i, B i < 256) : match jRd B n with
    | .ok (p, v, e) => fTx_parse (d + 80) a (nI fr) (nI n) s = rV (lJ (jTo p n) (lPs s a fr n (-1) (nI v) (nI e)))
    | .error e => ∃ p1 z, fTx_parse (d + 80) a (nI fr) (nI n) s = rV (lJ p1 (lPs s a fr n (nI e) (-1) z)) := by
  have hb0 := lP0_B (s := s) ha hn hl hA hB
  have hmin : aPrim 910 [.int (nI n), .int 4096] = some (.int (nI n)) := by
    have e : aPrim 910 [.int (nI n), .int 4096] = some (.int (if (4096 : Int32) < nI n then 4096 else nI n)) := rfl
    rw [e, nI_lit 4096]
    simp (disch := omega) only [nI_ltE]
    rw [if_neg (by omega)]
  have hval : ∀ D e, D ≤ 24 → lVal (lP0 s a fr n) B n (3 * D + 7 + e) (nI (24 - D)) (jV B n D) := Tx_val hb0
  have hv := hval 24 d (by omega) (jTo jP0 (jSk B n 0)) 0 (by omega) rfl ⟨⟨(jSk_le (by omega)).2, Nat.zero_le _, Nat.zero_le _⟩, fun i hi => absurd hi (Nat.not_lt_zero _), fun u _ h => absurd h (Nat.not_lt_zero _)⟩
  have ed : 3 * 24 + 7 + d = d + 74 + 5 := by omega
  rw [ed] at hv
  have est : jTo (jTo jP0 (jSk B n 0)) 0 = (0, 0, 0, fun _ _ => 0, fun _ => 0) := rfl
  rw [est] at hv
  have go : ∀ r, cG (fTx_value (d + 74 + 5) 0 (lJ (0, 0, 0, fun _ _ => 0, fun _ => 0) (lP0 s a fr n))) (kI fun v10 s9 => wI s9 13 8 v10 (fun s11 => wI s11 13 9 (gI s11 13 14) (fun s12 => cG (fTx_skipBlanks (d + 74 + 5) s12) (kV fun s13 => if gI s13 13 8 = (-1) then rV s13 else if gI s13 13 13 ≤ gI s13 13 14 then rV s13 else cG (fTx_failHere (d + 74 + 5) s13) (kI fun v15 s14 => wI s14 13 8 v15 (fun s16 => rV s16)))))) = some r → fTx_parse (d + 80) a (nI fr) (nI n) s = some r := by
    intro r hr
    refine eTx_parse (d + 74) a _ _ _ _ ?_
    rw [wM_eq, wI_eq, cP_of hmin, wI_eq, wI_eq, wI_eq, wI_eq, wI_eq, lP0_st (T := fun _ _ => 0) (N := fun _ => 0)]
    exact hr
  unfold jRd
  cases hjv : jV B n 24 (jTo jP0 (jSk B n 0)) with
  | error e =>
    rw [hjv] at hv
    obtain ⟨p1, hq, h⟩ := hv
    have h : fTx_value (d + 74 + 5) 0 (lJ (0, 0, 0, fun _ _ => 0, fun _ => 0) (lP0 s a fr n)) = rI (-1) (lJ p1 (pI (lP0 s a fr n) 13 10 (nI e))) := h
    have hbs : lB0 (pI (pI (pI (lP0 s a fr n) 13 10 (nI e)) 13 8 (-1)) 13 9 (nI p1.1)) B n fr := lB0_pI (lB0_pI (lB0_pI hb0 (by omega)) (by omega)) (by omega)
    have g8 : ∀ p, gI (lJ p (pI (pI (pI (lP0 s a fr n) 13 10 (nI e)) 13 8 (-1)) 13 9 (nI p1.1))) 13 8 = -1 := by
      intro p
      rw [lJ_f (by omega)]
      simp [gI_pI]
    have hskip : ∃ p2, fTx_skipBlanks (d + 74 + 5) (lJ p1 (pI (pI (pI (lP0 s a fr n) 13 10 (nI e)) 13 8 (-1)) 13 9 (nI p1.1))) = rV (lJ p2 (pI (pI (pI (lP0 s a fr n) 13 10 (nI e)) 13 8 (-1)) 13 9 (nI p1.1))) := by
      rcases Nat.lt_or_ge n p1.1 with hlt | hge
      · refine ⟨p1, ?_⟩
        refine eTx_skipBlanks (d + 74 + 4) _ _ ?_
        rw [lJ_f (by omega), hbs.2.1, lJ_at]
        simp (disch := omega) only [nI_leE]
        rw [if_pos (by omega)]
        rfl
      · exact ⟨_, Tx_bl (d + 74 + 4) hbs hge⟩
    obtain ⟨p2, hs2⟩ := hskip
    refine ⟨p2, nI p1.1, go _ ?_⟩
    rw [h, cG_I, wI_eq, lJ_pI (by omega), wI_eq, lJ_at, lJ_pI (by omega), hs2, cG_V, g8 p2, if_pos rfl]
    rfl
  | ok q =>
    obtain ⟨p, v⟩ := q
    rw [hjv] at hv
    have hv : fTx_value (d + 74 + 5) 0 (lJ (0, 0, 0, fun _ _ => 0, fun _ => 0) (lP0 s a fr n)) = rI (nI v) (lJ p (lP0 s a fr n)) := hv
    have hg0 : jGd n (jTo jP0 (jSk B n 0)) := ⟨⟨(jSk_le (by omega)).2, Nat.zero_le _, Nat.zero_le _⟩, fun i hi => absurd hi (Nat.not_lt_zero _), fun u _ h => absurd h (Nat.not_lt_zero _)⟩
    have hg := jGd_v hg0 hjv
    have hvo := jV_ok 24 _ _ hg0.1 hjv
    have hvlt : v < 2147483648 := by
      have h1 : v = 0 := hvo.1
      omega
    simp only at hg
    have hpn := hg.1.1
    have hbs : lB0 (pI (pI (lP0 s a fr n) 13 8 (nI v)) 13 9 (nI p.1)) B n fr := lB0_pI (lB0_pI hb0 (by omega)) (by omega)
    have hsk := jSk_le (B := B) hpn
    have g8 : ∀ p', gI (lJ p' (pI (pI (lP0 s a fr n) 13 8 (nI v)) 13 9 (nI p.1))) 13 8 = nI v := by
      intro p'
      rw [lJ_f (by omega)]
      simp [gI_pI]
    have g13 : ∀ p', gI (lJ p' (pI (pI (lP0 s a fr n) 13 8 (nI v)) 13 9 (nI p.1))) 13 13 = nI n := by
      intro p'
      rw [lJ_f (by omega)]
      exact hbs.2.1
    have go2 : ∀ r, (if n ≤ jSk B n p.1 then rV (lJ (jTo p (jSk B n p.1)) (pI (pI (lP0 s a fr n) 13 8 (nI v)) 13 9 (nI p.1))) else cG (fTx_failHere (d + 74 + 5) (lJ (jTo p (jSk B n p.1)) (pI (pI (lP0 s a fr n) 13 8 (nI v)) 13 9 (nI p.1)))) (kI fun v15 s14 => wI s14 13 8 v15 (fun s16 => rV s16))) = some r → fTx_parse (d + 80) a (nI fr) (nI n) s = some r := by
      intro r hr
      refine go _ ?_
      rw [hv, cG_I, wI_eq, lJ_pI (by omega), wI_eq, lJ_at, lJ_pI (by omega), Tx_bl (d + 74 + 4) hbs hpn, cG_V, g8, if_neg (nI_ne hvlt), g13, lJ_at]
      show (if nI n ≤ nI (jSk B n p.1) then _ else _) = _
      simp (disch := omega) only [nI_leE]
      exact hr
    have eb : pI (pI (lP0 s a fr n) 13 8 (nI v)) 13 9 (nI p.1) = lPs s a fr n (-1) (nI v) (nI p.1) := by
      unfold lPs
      have : pI (lP0 s a fr n) 13 10 (-1) = lP0 s a fr n := pI_self (by simp [lP0, gI_pI])
      rw [this]
    simp only
    by_cases hend : jSk B n p.1 = n
    · rw [if_pos hend]
      rw [if_pos (by omega)] at go2
      refine go2 _ ?_
      rw [hend, eb]
      rfl
    · rw [if_neg hend]
      rw [if_neg (by omega)] at go2
      refine ⟨jTo p (jSk B n p.1), nI p.1, go2 _ ?_⟩
      rw [Tx_failHere, cG_I, wI_eq, lJ_pI (by omega)]
      have e2 : pI (pI (pI (pI (lP0 s a fr n) 13 8 (nI v)) 13 9 (nI p.1)) 13 10 (nI (jTo p (jSk B n p.1)).1)) 13 8 (-1) = lPs s a fr n (nI (jSk B n p.1)) (-1) (nI p.1) := by
        unfold lPs
        rw [pI_comm _ (k := 13) (i := 9) (k' := 13) (i' := 10) (by omega), pI_comm _ (k := 13) (i := 8) (k' := 13) (i' := 10) (by omega), pI_comm _ (k := 13) (i := 9) (k' := 13) (i' := 8) (by omega), pI_pI]
        rfl
      rw [e2]
      rfl
end
