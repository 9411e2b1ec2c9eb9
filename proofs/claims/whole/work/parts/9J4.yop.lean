/-! what is asked of the list of files, on both sides -/
/-- a file of rows of subject x -/
abbrev yIs (f : yFi) (x : Nat) : Prop := f.1 = x ∧ f.2.2.2.2.1 ≠ 0
/-- a version's file of subject x -/
abbrev yIv (f : yFi) (x : Nat) : Prop := f.1 = x ∧ f.2.2.2.2.1 = 0
/-- rows in the first n files -/
def yRs (L : List yFi) (x : Nat) : Nat → Nat
  | 0 => 0
  | n + 1 => yRs L x n + (if yIs (L.getD n yF0) x then (L.getD n yF0).2.2.2.2.1 - 1 else 0)
/-- files of rows among the first n -/
def yFc (L : List yFi) (x : Nat) : Nat → Nat
  | 0 => 0
  | n + 1 => yFc L x n + (if yIs (L.getD n yF0) x then 1 else 0)
/-- versions among the first n -/
def yVc (L : List yFi) (x : Nat) : Nat → Nat
  | 0 => 0
  | n + 1 => yVc L x n + (if yIv (L.getD n yF0) x then 1 else 0)
/-- the file of a version, + 1 -/
def yVf (L : List yFi) (x v : Nat) : Nat := kFr (fun k => decide (yIv (L.getD k yF0) x ∧ (L.getD k yF0).2.1 = v)) L.length 0
/-- the file that has row i, + 1 -/
def yFo (L : List yFi) (x i : Nat) : Nat := kFr (fun k => decide (yIs (L.getD k yF0) x ∧ i < yRs L x (k + 1))) L.length 0
/-- the next file of rows, + 1 -/
def yNx (L : List yFi) (x j : Nat) : Nat := kFr (fun k => decide (yIs (L.getD k yF0) x)) (L.length - j) j
section
variable {L : List yFi} {s : aT}
theorem yRs_le (hs : yLs L) (x : Nat) : ∀ n, n ≤ L.length → yRs L x n ≤ 4096 * n
  | 0, _ => Nat.le_refl _
  | n + 1, h => by
    have ih := yRs_le hs x n (by omega)
    have hb := (hs.2 n (by omega)).2.2.2.1
    unfold yRs
    split <;> omega
theorem yFc_le (x : Nat) : ∀ n, yFc L x n ≤ n
  | 0 => Nat.le_refl _
  | n + 1 => by
    have ih := yFc_le x n
    unfold yFc
    split <;> omega
theorem yVc_le (x : Nat) : ∀ n, yVc L x n ≤ n
  | 0 => Nat.le_refl _
  | n + 1 => by
    have ih := yVc_le x n
    unfold yVc
    split <;> omega
theorem zI_m1 {x : Nat} (h : x < 2147483648) : (zI x = -1) = (x = 0) := zI_n1 h
/-- the lake's isRowsOf -/
theorem Fl_is (hl : lFi L s) (hs : yLs L) (d : Nat) {k x : Nat} (hk : k < L.length) (hx : x < 4) : fFl_isRowsOf d (nI k) (nI x) s = rI (if yIs (L.getD k yF0) x then 1 else 0) s := by
  have h40 := hs.1
  obtain ⟨a1, a2, a3, a4, a5⟩ := hl.2 k hk
  obtain ⟨b1, b2, b3, b4, b5⟩ := hs.2 k hk
  refine eFl_isRowsOf d _ _ _ _ ?_
  rw [ldI_n (by omega) (by omega), a1]
  simp (disch := omega) only [nI_eqE]
  by_cases h1 : (L.getD k yF0).1 = x
  · rw [if_neg (fun e => e h1), ldI_n (by omega) (by omega), a5]
    simp only [zI_m1 (show (L.getD k yF0).2.2.2.2.1 < 2147483648 by omega)]
    by_cases h2 : (L.getD k yF0).2.2.2.2.1 = 0
    · rw [if_pos h2, if_neg (fun e => e.2 h2)]
      rfl
    · rw [if_neg h2, if_pos ⟨h1, h2⟩]
      rfl
  · rw [if_pos h1, if_neg (fun e => h1 e.1)]
    rfl
theorem if10 {p : Prop} [Decidable p] : ((if p then (1 : Int32) else 0) = 0) = ¬ p := by by_cases h : p <;> simp [h]
/-- the lake's rowsUpTo -/
theorem Fl_ru (hl : lFi L s) (hs : yLs L) (d : Nat) {x n : Nat} (hx : x < 4) (hn : n ≤ L.length) : fFl_rowsUpTo (d + 1) (nI x) (nI n) s = rI (nI (yRs L x n)) s := by
  have h40 := hs.1
  have loop : ∀ k j, j + k = n → fFl_rowsUpTo_4 (d + 1) (nI x) (nI n) (nI (yRs L x j)) (nI j) s = rI (nI (yRs L x n)) s := by
    intro k
    induction k with
    | zero =>
      intro j hj
      refine eFl_rowsUpTo_4 d _ _ _ _ _ _ ?_
      rw [if_pos (show nI n ≤ nI j by rw [nI_leE (by omega) (by omega)]; omega), show j = n by omega]
      rfl
    | succ k ih =>
      intro j hj
      obtain ⟨b1, b2, b3, b4, b5⟩ := hs.2 j (by omega)
      refine eFl_rowsUpTo_4 d _ _ _ _ _ _ ?_
      rw [if_neg (show ¬ nI n ≤ nI j by rw [nI_leE (by omega) (by omega)]; omega), Fl_is hl hs d (by omega) hx, cG_I]
      simp only [if10]
      by_cases h : yIs (L.getD j yF0) x
      · rw [if_neg (fun e => e h), ldI_n (by omega) (by omega), (hl.2 j (by omega)).2.2.2.2, zI_pos (Nat.pos_of_ne_zero h.2)]
        refine eFl_rowsUpTo_19 d _ _ _ _ _ _ _ ?_
        have e : yRs L x (j + 1) = yRs L x j + ((L.getD j yF0).2.2.2.2.1 - 1) := by show yRs L x j + (if _ then _ else _) = _; rw [if_pos h]
        rw [nI_addE, nI_add1, ← e]
        exact ih (j + 1) (by omega)
      · rw [if_pos h]
        refine eFl_rowsUpTo_19 d _ _ _ _ _ _ _ ?_
        have e : yRs L x (j + 1) = yRs L x j := by show yRs L x j + (if _ then _ else _) = _; rw [if_neg h]; rfl
        rw [show nI (yRs L x j) + 0 = nI (yRs L x j) from Int32.add_zero _, nI_add1, ← e]
        exact ih (j + 1) (by omega)
  exact eFl_rowsUpTo d _ _ _ _ (loop n 0 (by omega))
theorem Fl_ro (hl : lFi L s) (hs : yLs L) (d : Nat) {x : Nat} (hx : x < 4) : fFl_rowsOf (d + 2) (nI x) s = rI (nI (yRs L x L.length)) s := by
  refine eFl_rowsOf (d + 1) _ _ _ ?_
  rw [hl.1, Fl_ru hl hs d hx (Nat.le_refl _), cG_I]
  rfl
theorem Fl_rb (hl : lFi L s) (hs : yLs L) (d : Nat) {k : Nat} (hk : k < L.length) : fFl_rowsBefore (d + 2) (nI k) s = rI (nI (yRs L (L.getD k yF0).1 k)) s := by
  have h40 := hs.1
  refine eFl_rowsBefore (d + 1) _ _ _ ?_
  rw [ldI_n (by omega) (by omega), (hl.2 k hk).1, Fl_ru hl hs d (hs.2 k hk).1.1 (by omega), cG_I]
  rfl
/-- the lake's filesOf -/
theorem Fl_fc (hl : lFi L s) (hs : yLs L) (d : Nat) {x : Nat} (hx : x < 4) : fFl_filesOf (d + 1) (nI x) s = rI (nI (yFc L x L.length)) s := by
  have h40 := hs.1
  have loop : ∀ k j, j + k = L.length → fFl_filesOf_4 (d + 1) (nI x) (nI (yFc L x j)) (nI j) s = rI (nI (yFc L x L.length)) s := by
    intro k
    induction k with
    | zero =>
      intro j hj
      refine eFl_filesOf_4 d _ _ _ _ _ ?_
      rw [hl.1, if_pos (show nI L.length ≤ nI j by rw [nI_leE (by omega) (by omega)]; omega), show j = L.length by omega]
      rfl
    | succ k ih =>
      intro j hj
      refine eFl_filesOf_4 d _ _ _ _ _ ?_
      rw [hl.1, if_neg (show ¬ nI L.length ≤ nI j by rw [nI_leE (by omega) (by omega)]; omega), Fl_is hl hs d (by omega) hx, cG_I]
      simp only [if10]
      by_cases h : yIs (L.getD j yF0) x
      · rw [if_neg (fun e => e h)]
        refine eFl_filesOf_17 d _ _ _ _ _ _ ?_
        have e : yFc L x (j + 1) = yFc L x j + 1 := by show yFc L x j + (if _ then _ else _) = _; rw [if_pos h]
        rw [nI_add1, nI_add1, ← e]
        exact ih (j + 1) (by omega)
      · rw [if_pos h]
        refine eFl_filesOf_17 d _ _ _ _ _ _ ?_
        have e : yFc L x (j + 1) = yFc L x j := by show yFc L x j + (if _ then _ else _) = _; rw [if_neg h]; rfl
        rw [show nI (yFc L x j) + 0 = nI (yFc L x j) from Int32.add_zero _, nI_add1, ← e]
        exact ih (j + 1) (by omega)
  exact eFl_filesOf d _ _ _ (loop L.length 0 (by omega))
/-- the lake's nextRowsOf -/
theorem Fl_nx (hl : lFi L s) (hs : yLs L) (d : Nat) {x j : Nat} (hx : x < 4) (hj : j ≤ L.length) : fFl_nextRowsOf (d + 1) (nI x) (nI j) s = rI (zI (yNx L x j)) s := by
  have h40 := hs.1
  have loop : ∀ k j, j + k = L.length → fFl_nextRowsOf_2 (d + 1) (nI x) (nI j) s = rI (zI (kFr (fun k => decide (yIs (L.getD k yF0) x)) k j)) s := by
    intro k
    induction k with
    | zero =>
      intro j hj
      refine eFl_nextRowsOf_2 d _ _ _ _ ?_
      rw [hl.1, if_pos (show nI L.length ≤ nI j by rw [nI_leE (by omega) (by omega)]; omega)]
      rfl
    | succ k ih =>
      intro j hj
      refine eFl_nextRowsOf_2 d _ _ _ _ ?_
      rw [hl.1, if_neg (show ¬ nI L.length ≤ nI j by rw [nI_leE (by omega) (by omega)]; omega), Fl_is hl hs d (by omega) hx, cG_I]
      simp only [if10]
      have ek : kFr (fun k => decide (yIs (L.getD k yF0) x)) (k + 1) j = if decide (yIs (L.getD j yF0) x) = true then j + 1 else kFr (fun k => decide (yIs (L.getD k yF0) x)) k (j + 1) := rfl
      rw [ek]
      by_cases h : yIs (L.getD j yF0) x
      · rw [if_neg (fun e => e h), if_pos (decide_eq_true h), zI_S]
        rfl
      · rw [if_pos h, if_neg (fun e => h (of_decide_eq_true e)), nI_add1]
        exact ih (j + 1) (by omega)
  exact eFl_nextRowsOf d _ _ _ _ (loop (L.length - j) j (by omega))
/-- the lake's fileOfRow -/
theorem Fl_fr (hl : lFi L s) (hs : yLs L) (d : Nat) {x i : Nat} (hx : x < 4) (hi : i < 2147483648) : fFl_fileOfRow (d + 1) (nI x) (nI i) s = rI (zI (yFo L x i)) s := by
  have h40 := hs.1
  have loop : ∀ k j, j + k = L.length → fFl_fileOfRow_4 (d + 1) (nI x) (nI i) (nI (yRs L x j)) (nI j) s = rI (zI (kFr (fun k => decide (yIs (L.getD k yF0) x ∧ i < yRs L x (k + 1))) k j)) s := by
    intro k
    induction k with
    | zero =>
      intro j hj
      refine eFl_fileOfRow_4 d _ _ _ _ _ _ ?_
      rw [if_neg (nI_n0 hi), hl.1, if_pos (show nI L.length ≤ nI j by rw [nI_leE (by omega) (by omega)]; omega)]
      rfl
    | succ k ih =>
      intro j hj
      obtain ⟨b1, b2, b3, b4, b5⟩ := hs.2 j (by omega)
      have hrs := yRs_le hs x (j + 1) (by omega)
      refine eFl_fileOfRow_4 d _ _ _ _ _ _ ?_
      rw [if_neg (nI_n0 hi), hl.1, if_neg (show ¬ nI L.length ≤ nI j by rw [nI_leE (by omega) (by omega)]; omega), Fl_is hl hs d (by omega) hx, cG_I]
      simp only [if10]
      have ek : kFr (fun k => decide (yIs (L.getD k yF0) x ∧ i < yRs L x (k + 1))) (k + 1) j = if decide (yIs (L.getD j yF0) x ∧ i < yRs L x (j + 1)) = true then j + 1 else kFr (fun k => decide (yIs (L.getD k yF0) x ∧ i < yRs L x (k + 1))) k (j + 1) := rfl
      rw [ek]
      by_cases h : yIs (L.getD j yF0) x
      · have e : yRs L x (j + 1) = yRs L x j + ((L.getD j yF0).2.2.2.2.1 - 1) := by show yRs L x j + (if _ then _ else _) = _; rw [if_pos h]
        rw [if_neg (fun e => e h), ldI_n (by omega) (by omega), (hl.2 j (by omega)).2.2.2.2, zI_pos (Nat.pos_of_ne_zero h.2), nI_addE, ← e]
        simp (disch := omega) only [nI_leE]
        by_cases h2 : yRs L x (j + 1) ≤ i
        · rw [if_pos h2, if_neg (fun e => by have := (of_decide_eq_true e).2; omega)]
          refine eFl_fileOfRow_27 d _ _ _ _ _ _ ?_
          rw [nI_add1]
          exact ih (j + 1) (by omega)
        · rw [if_neg h2, if_pos (decide_eq_true ⟨h, by omega⟩), zI_S]
          rfl
      · have e : yRs L x (j + 1) = yRs L x j := by show yRs L x j + (if _ then _ else _) = _; rw [if_neg h]; rfl
        rw [if_pos h, if_neg (fun e => h (of_decide_eq_true e).1)]
        refine eFl_fileOfRow_27 d _ _ _ _ _ _ ?_
        rw [nI_add1, ← e]
        exact ih (j + 1) (by omega)
  exact eFl_fileOfRow d _ _ _ _ (loop L.length 0 (by omega))
theorem Fl_frN (d : Nat) {x y : Int32} (hy : y < 0) : fFl_fileOfRow (d + 1) x y s = rI (-1) s := by
  refine eFl_fileOfRow d _ _ _ _ (eFl_fileOfRow_4 d _ _ _ _ _ _ ?_)
  rw [if_pos hy]
  rfl
/-- the reference's rows -/
theorem Mo_rs (hl : mFi L s) (hs : yLs L) (d : Nat) {x : Nat} (hx : x < 4) : fMo_rows d (nI x) s = rI (nI (yRs L x L.length)) s := by
  have h40 := hs.1
  have loop : ∀ k j, j + k = L.length → fMo_rows_4 d (nI x) (nI (yRs L x j)) (nI j) s = rI (nI (yRs L x L.length)) s := by
    intro k
    induction k with
    | zero =>
      intro j hj
      refine eMo_rows_4 d _ _ _ _ _ ?_
      rw [hl.1, if_pos (show nI L.length ≤ nI j by rw [nI_leE (by omega) (by omega)]; omega), show j = L.length by omega]
      rfl
    | succ k ih =>
      intro j hj
      obtain ⟨a1, a2, a3, a4, a5, a6⟩ := hl.2 j (by omega)
      obtain ⟨b1, b2, b3, b4, b5⟩ := hs.2 j (by omega)
      have g0 : ¬ yIs (L.getD j yF0) x → fMo_rows_26 d (nI x) (nI (yRs L x j)) (nI j) s = rI (nI (yRs L x L.length)) s := fun h => by
        have e : yRs L x (j + 1) = yRs L x j := by show yRs L x j + (if _ then _ else _) = _; rw [if_neg h]; rfl
        refine eMo_rows_26 d _ _ _ _ _ (eMo_rows_27 d _ _ _ _ _ ?_)
        rw [nI_add1, ← e]
        exact ih (j + 1) (by omega)
      refine eMo_rows_4 d _ _ _ _ _ ?_
      rw [hl.1, if_neg (show ¬ nI L.length ≤ nI j by rw [nI_leE (by omega) (by omega)]; omega), ldI_n (by omega) (by omega), a1]
      simp (disch := omega) only [nI_eqE]
      by_cases h1 : (L.getD j yF0).1 = x
      · rw [if_neg (fun e => e h1), ldI_n (by omega) (by omega), a5]
        by_cases h2 : (L.getD j yF0).2.2.2.2.1 = 0
        · rw [if_pos (by rw [h2]; decide)]
          exact g0 (fun e => e.2 h2)
        · have h : yIs (L.getD j yF0) x := ⟨h1, h2⟩
          rw [zI_pos (Nat.pos_of_ne_zero h2), if_neg (nI_n0 (by omega)), ldI_n (by omega) (by omega), a5, zI_pos (Nat.pos_of_ne_zero h2)]
          have e : yRs L x (j + 1) = yRs L x j + ((L.getD j yF0).2.2.2.2.1 - 1) := by show yRs L x j + (if _ then _ else _) = _; rw [if_pos h]
          refine eMo_rows_27 d _ _ _ _ _ ?_
          rw [nI_addE, nI_add1, ← e]
          exact ih (j + 1) (by omega)
      · rw [if_pos h1]
        exact g0 (fun e => h1 e.1)
  exact eMo_rows d _ _ _ (loop L.length 0 (by omega))
/-- the reference's versions -/
theorem Mo_vsn (hl : mFi L s) (hs : yLs L) (d : Nat) {x : Nat} (hx : x < 4) : fMo_versions d (nI x) s = rI (nI (yVc L x L.length)) s := by
  have h40 := hs.1
  have loop : ∀ k j, j + k = L.length → fMo_versions_4 d (nI x) (nI (yVc L x j)) (nI j) s = rI (nI (yVc L x L.length)) s := by
    intro k
    induction k with
    | zero =>
      intro j hj
      refine eMo_versions_4 d _ _ _ _ _ ?_
      rw [hl.1, if_pos (show nI L.length ≤ nI j by rw [nI_leE (by omega) (by omega)]; omega), show j = L.length by omega]
      rfl
    | succ k ih =>
      intro j hj
      obtain ⟨a1, a2, a3, a4, a5, a6⟩ := hl.2 j (by omega)
      obtain ⟨b1, b2, b3, b4, b5⟩ := hs.2 j (by omega)
      have g0 : ¬ yIv (L.getD j yF0) x → fMo_versions_24 d (nI x) (nI (yVc L x j)) (nI j) s = rI (nI (yVc L x L.length)) s := fun h => by
        have e : yVc L x (j + 1) = yVc L x j := by show yVc L x j + (if _ then _ else _) = _; rw [if_neg h]; rfl
        refine eMo_versions_24 d _ _ _ _ _ (eMo_versions_25 d _ _ _ _ _ ?_)
        rw [nI_add1, ← e]
        exact ih (j + 1) (by omega)
      refine eMo_versions_4 d _ _ _ _ _ ?_
      rw [hl.1, if_neg (show ¬ nI L.length ≤ nI j by rw [nI_leE (by omega) (by omega)]; omega), ldI_n (by omega) (by omega), a1]
      simp (disch := omega) only [nI_eqE]
      by_cases h1 : (L.getD j yF0).1 = x
      · rw [if_neg (fun e => e h1), ldI_n (by omega) (by omega), a5]
        simp only [zI_m1 (show (L.getD j yF0).2.2.2.2.1 < 2147483648 by omega)]
        by_cases h2 : (L.getD j yF0).2.2.2.2.1 = 0
        · have h : yIv (L.getD j yF0) x := ⟨h1, h2⟩
          rw [if_neg (fun e => e h2)]
          have e : yVc L x (j + 1) = yVc L x j + 1 := by show yVc L x j + (if _ then _ else _) = _; rw [if_pos h]
          refine eMo_versions_25 d _ _ _ _ _ ?_
          rw [nI_add1, nI_add1, ← e]
          exact ih (j + 1) (by omega)
        · rw [if_pos h2]
          exact g0 (fun e => h2 e.2)
      · rw [if_pos h1]
        exact g0 (fun e => h1 e.1)
  exact eMo_versions d _ _ _ (loop L.length 0 (by omega))
/-- the reference's versionFile -/
theorem Mo_vf (hl : mFi L s) (hs : yLs L) (d : Nat) {x v : Nat} (hx : x < 4) (hv : v < 2147483648) : fMo_versionFile d (nI x) (nI v) s = rI (zI (yVf L x v)) s := by
  have h40 := hs.1
  have loop : ∀ k j, j + k = L.length → fMo_versionFile_2 d (nI x) (nI v) (nI j) s = rI (zI (kFr (fun k => decide (yIv (L.getD k yF0) x ∧ (L.getD k yF0).2.1 = v)) k j)) s := by
    intro k
    induction k with
    | zero =>
      intro j hj
      refine eMo_versionFile_2 d _ _ _ _ _ ?_
      rw [hl.1, if_pos (show nI L.length ≤ nI j by rw [nI_leE (by omega) (by omega)]; omega)]
      rfl
    | succ k ih =>
      intro j hj
      obtain ⟨a1, a2, a3, a4, a5, a6⟩ := hl.2 j (by omega)
      obtain ⟨b1, b2, b3, b4, b5⟩ := hs.2 j (by omega)
      have ek : kFr (fun k => decide (yIv (L.getD k yF0) x ∧ (L.getD k yF0).2.1 = v)) (k + 1) j = if decide (yIv (L.getD j yF0) x ∧ (L.getD j yF0).2.1 = v) = true then j + 1 else kFr (fun k => decide (yIv (L.getD k yF0) x ∧ (L.getD k yF0).2.1 = v)) k (j + 1) := rfl
      have g0 : ¬ (yIv (L.getD j yF0) x ∧ (L.getD j yF0).2.1 = v) → fMo_versionFile_26 d (nI x) (nI v) (nI j) s = rI (zI (kFr (fun k => decide (yIv (L.getD k yF0) x ∧ (L.getD k yF0).2.1 = v)) (k + 1) j)) s := fun h => by
        rw [ek, if_neg (fun e => h (of_decide_eq_true e))]
        refine eMo_versionFile_26 d _ _ _ _ _ ?_
        rw [nI_add1]
        exact ih (j + 1) (by omega)
      refine eMo_versionFile_2 d _ _ _ _ _ ?_
      rw [hl.1, if_neg (show ¬ nI L.length ≤ nI j by rw [nI_leE (by omega) (by omega)]; omega), ldI_n (by omega) (by omega), a1]
      simp (disch := omega) only [nI_eqE]
      by_cases h1 : (L.getD j yF0).1 = x
      · rw [if_neg (fun e => e h1), ldI_n (by omega) (by omega), a5]
        simp only [zI_m1 (show (L.getD j yF0).2.2.2.2.1 < 2147483648 by omega)]
        by_cases h2 : (L.getD j yF0).2.2.2.2.1 = 0
        · rw [if_neg (fun e => e h2), ldI_n (by omega) (by omega), a2]
          simp (disch := omega) only [nI_eqE]
          by_cases h3 : (L.getD j yF0).2.1 = v
          · rw [if_neg (fun e => e h3), ek, if_pos (decide_eq_true ⟨⟨h1, h2⟩, h3⟩), zI_S]
            rfl
          · rw [if_pos h3]
            exact g0 (fun e => h3 e.2)
        · rw [if_pos h2]
          exact g0 (fun e => h2 e.1.2)
      · rw [if_pos h1]
        exact g0 (fun e => h1 e.1.1)
  exact eMo_versionFile d _ _ _ _ (loop L.length 0 (by omega))
end
